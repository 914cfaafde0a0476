/-! THE REFERENCE'S CALLS -/
theorem mfinT {T : Nat → ClassId} {x1 : Nat} {A : Nat → Nat} {I2 Io In : Nat → Int32} {F2 Fo Fn : Nat → Nat → Int32} {K : Nat} (h : K = 0) (e1 : I2 = Io) (e2 : F2 = Fo) : cM T x1 A I2 F2 = cM T x1 A (if K = 0 then Io else In) (if K = 0 then Fo else Fn) := by rw [if_pos h, if_pos h, e1, e2]
theorem mfinF {T : Nat → ClassId} {x1 : Nat} {A : Nat → Nat} {I2 Io In : Nat → Int32} {F2 Fo Fn : Nat → Nat → Int32} {K : Nat} (h : ¬ K = 0) (e1 : I2 = In) (e2 : F2 = Fn) : cM T x1 A I2 F2 = cM T x1 A (if K = 0 then Io else In) (if K = 0 then Fo else Fn) := by rw [if_neg h, if_neg h, e1, e2]
abbrev PX3_deposit (G : va_G) (T : Nat → ClassId) (x1 : Nat) (A : Nat → Nat) (I1 : Nat → Int32) (F : Nat → Nat → Int32) (i : Nat) (p0 p1 : Int32) (sz : Nat) : Array Value → State → Prop := gPc G T [.ref x1, .int p0, .int p1] (cM T x1 A I1 F) sz
abbrev QX3_deposit (G : va_G) (T : Nat → ClassId) (x1 : Nat) (A : Nat → Nat) (I1 : Nat → Int32) (F : Nat → Nat → Int32) (i : Nat) (p0 p1 : Int32) (sz : Nat) : Array Value → State → Outcome → State → Prop := va_Qi (fun (r : Int32) (_ : Unit) => r = if (kDep p0 p1) = 0 then F 2 i + p1 else 0) (gB G (cM T x1 A (if (kDep p0 p1) = 0 then (upd I1 17 0) else upd I1 17 (w3 (kDep p0 p1))) (if (kDep p0 p1) = 0 then (updA F 2 (upd (F 2) i (F 2 i + p1))) else F))) (va_A (cM T x1 A I1 F) sz)
set_option maxHeartbeats 4000000 in
set_option maxRecDepth 100000 in
theorem kX3_deposit (l : Launch) (G : va_G) (T : Nat → ClassId) (x1 : Nat) (A : Nat → Nat) (I1 : Nat → Int32) (F : Nat → Nat → Int32) (i : Nat) (p0 p1 : Int32) (sz : Nat) (hi : okI p0 6 = true → p0 = nI i ∧ i < 6) : Met l yX3_deposit wsX3_deposit ({ frames := 2, cells := 0, slots := 0, locals := 42 } : Room) (PX3_deposit G T x1 A I1 F i p0 p1 sz) (QX3_deposit G T x1 A I1 F i p0 p1 sz) 0 0 (va_A (cM T x1 A I1 F) sz) := by
  refine Met.ofW (cc := cX3_deposit) (maxL := 3) (ret := (some .int)) (by decide) rfl ?_
  intro p e s m args below meth c s₁ B hml hv
  obtain ⟨rfl, hsz, hP, hK, hD0, hE⟩ := hv
  have hx := B.exec
  have hb := B.bytes
  have hr := B.returns
  have hts := atoms_spec (ws := wsX3_deposit) B.pre
  have hown : s.vm.findClass RX3 = some m.cls := findClass_of_methodNamed B.named
  have hlocks := B.notSynchronized
  subst hsz
  have hD := hD0.self (sz := s.heap.size)
  have hA : ∀ q : Nat, s.heap.size ≤ q → (va_A (cM T x1 A I1 F) s.heap.size) q := fun q h => Or.inr h
  have hS : va_S (va_A (cM T x1 A I1 F) s.heap.size) s.heap s.heap [] := va_S.rf
  have hiRX3 : ∀ w ∈ u_ws RX3 TX3 18, w ∈ wsX3_deposit := by decide +kernel
  have hl := lv_entry ([.ref x1, .int p0, .int p1]) (n := 3) (Nat.le_of_ble_eq_true rfl)
  rw [lg_entry_eq]
  generalize (lg_sl ([.ref x1, .int p0, .int p1]) ++ List.replicate (3 - (lg_sl ([.ref x1, .int p0, .int p1])).length) Slot.unset).toArray = ls at hl ⊢
  have hl : lv_has ls 3 [(0, .ref x1), (1, .int p0), (2, .int p1)] := hl
  have hP : va_P G vwCl (cM T x1 A I1 F) s.heap := hP
  refine lv_aload_n hx hb dX3_deposit_0 rfl (lv_at hl 0 rfl) ?_
  refine lv_iload_n hx hb dX3_deposit_1 rfl (lv_at hl 1 rfl) ?_
  refine gci (va_runS (As := [.int p0]) (rest := [.ref x1]) ⟨hx, hb, hml, hown, hts⟩ (kX3_isOwner l G T p0 _) (va_cwS 1 hts gX3_deposit_X3_isOwner rfl rfl rfl (by decide +kernel) ⟨Nat.le_of_ble_eq_true rfl, Nat.le_of_ble_eq_true rfl⟩) ⟨gblind, gpre hE hK hP hD hS hA [] rfl rfl⟩ rfl rfl hl.1 rfl (lv_room (Nat.le_of_ble_eq_true rfl)) dX3_deposit_2 ⟨Nat.le_of_ble_eq_true rfl, Nat.le_of_ble_eq_true rfl⟩) hP hD hS hA [] rfl rfl (fun r9 H locs hw hP hD hS => ?_)
  have hP : va_P G vwCl (cM T x1 A I1 F) H := hP
  have hD : va_D (va_A (cM T x1 A I1 F) s.heap.size) (cM T x1 A I1 F) := hD
  subst hw
  refine lv_if_ne (tgt := 12) hx hb dX3_deposit_5 (by decide) (fun c5 => ?_) (fun c5 => ?_)
  · skip
    have t5 : (okI p0 6) = true := bI_t c5
    have e0 := hi t5
    obtain ⟨e0a, e0b⟩ := e0
    rw [show Value.int p0 = Value.int (nI i) from congrArg Value.int e0a] at hl
    refine lv_iload_n hx hb dX3_deposit_12 rfl (lv_at hl 2 rfl) ?_
    refine lv_iconst (v := 1) hx hb dX3_deposit_13 (by decide) ?_
    refine lv_ldc (v := 100000) hx hb hown (hts (.constant RX3 64 100000) (by decide +kernel)) dX3_deposit_14 ?_
    refine gci (va_runS (As := [.int p1, .int 1, .int 100000]) (rest := [.ref x1]) ⟨hx, hb, hml, hown, hts⟩ (kX3_isIn l G T p1 1 100000 _) (va_cwS 3 hts gX3_deposit_X3_isIn rfl rfl rfl (by decide +kernel) ⟨Nat.le_of_ble_eq_true rfl, Nat.le_of_ble_eq_true rfl⟩) ⟨gblind, gpre hE hK hP hD hS hA [] rfl rfl⟩ rfl rfl hl.1 rfl (lv_room (Nat.le_of_ble_eq_true rfl)) dX3_deposit_16 ⟨Nat.le_of_ble_eq_true rfl, Nat.le_of_ble_eq_true rfl⟩) hP hD hS hA [] rfl rfl (fun r9 H locs hw hP hD hS => ?_)
    have hP : va_P G vwCl (cM T x1 A I1 F) H := hP
    have hD : va_D (va_A (cM T x1 A I1 F) s.heap.size) (cM T x1 A I1 F) := hD
    subst hw
    refine lv_if_eq (tgt := 26) hx hb dX3_deposit_19 (by decide) (fun c19 => ?_) (fun c19 => ?_)
    · skip
      have t19 : (okR p1 1 100000) = false := bI_f c19
      refine lv_iconst (v := 2) hx hb dX3_deposit_26 (by decide) ?_
      refine gciT (X := ([] : va_W)) (va_runV (As := [.int 2]) (rest := []) ⟨hx, hb, hml, hown, hts⟩ (kX3_fails l G T x1 A I1 F 2 _) (cwV 1 hts gX3_deposit_X3_fails rfl rfl rfl (by decide +kernel) ⟨Nat.le_of_ble_eq_true rfl, Nat.le_of_ble_eq_true rfl⟩) ⟨gblind, va_recv hK hP (ci := 3) (q0 := 0) rfl rfl, gpreT (X := ([] : va_W)) hE hK hP hD hS hA⟩ rfl rfl hl.1 rfl (lv_room (Nat.le_of_ble_eq_true rfl)) dX3_deposit_27 ⟨Nat.le_of_ble_eq_true rfl, Nat.le_of_ble_eq_true rfl⟩) hP hD hS hA cM_fst (fun r9 H locs hw hP hD hS => ?_)
      have hP : va_P G vwCl (cM T x1 A (upd I1 17 2) F) H := hP
      have hD : va_D (va_A (cM T x1 A I1 F) s.heap.size) (cM T x1 A (upd I1 17 2) F) := hD
      subst hw
      refine gtop (y := 1) (by decide) ?_
      refine lv_if_eq (tgt := 35) hx hb dX3_deposit_30 (by decide) (fun c30 => ?_) (fun c30 => ?_)
      · exact absurd c30 (by decide)
      · skip
        refine lv_iconst (v := 0) hx hb dX3_deposit_33 (by decide) ?_
        exact W.iret (v := 0) hx hb hr (fun t ht9 hW => ⟨⟨0, (), rfl, (if_neg (by simp [kDep, c30, t5, t19])).symm, gBi ht9 (gfin hP (mfinF (by simp [kDep, c30, t5, t19]) (congrArg (upd I1 17) (by simp [w3, kDep, c30, t5, t19])) rfl))⟩, hS.F ht9⟩) hS.2.2 dX3_deposit_34
    · skip
      have t19 : (okR p1 1 100000) = true := bI_t c19
      refine lv_iconst (v := 0) hx hb dX3_deposit_22 (by decide) ?_
      refine lv_goto (tgt := 27) hx hb dX3_deposit_23 (by decide) ?_
      refine gciT (X := ([] : va_W)) (va_runV (As := [.int 0]) (rest := []) ⟨hx, hb, hml, hown, hts⟩ (kX3_fails l G T x1 A I1 F 0 _) (cwV 1 hts gX3_deposit_X3_fails rfl rfl rfl (by decide +kernel) ⟨Nat.le_of_ble_eq_true rfl, Nat.le_of_ble_eq_true rfl⟩) ⟨gblind, va_recv hK hP (ci := 3) (q0 := 0) rfl rfl, gpreT (X := ([] : va_W)) hE hK hP hD hS hA⟩ rfl rfl hl.1 rfl (lv_room (Nat.le_of_ble_eq_true rfl)) dX3_deposit_27 ⟨Nat.le_of_ble_eq_true rfl, Nat.le_of_ble_eq_true rfl⟩) hP hD hS hA cM_fst (fun r9 H locs hw hP hD hS => ?_)
      have hP : va_P G vwCl (cM T x1 A (upd I1 17 0) F) H := hP
      have hD : va_D (va_A (cM T x1 A I1 F) s.heap.size) (cM T x1 A (upd I1 17 0) F) := hD
      subst hw
      refine gtop (y := 0) (by decide) ?_
      refine lv_if_eq (tgt := 35) hx hb dX3_deposit_30 (by decide) (fun c30 => ?_) (fun c30 => ?_)
      · skip
        refine lv_aload_n hx hb dX3_deposit_35 rfl (lv_at hl 0 rfl) ?_
        refine va_get (D := G) (ci := 3) (v := .ref (A 2)) (C := RX3) (T := TX3) (N := 18) hx hb hts hiRX3 hown hK hP 0 rfl rfl 2 (by decide) (hts (.fieldLink RX3 7 "NameAuctionModel" "funds" "[I") (by decide +kernel)) (fun _ h9 => h9) rfl dX3_deposit_36 ?_
        refine lv_iload_n hx hb dX3_deposit_39 rfl (lv_at hl 1 rfl) ?_
        refine lv_dup2_11 hx hb dX3_deposit_40 rfl rfl ?_
        refine giald (j := i) hx hb hK hP 1 0 rfl rfl (show (nI i : Int32) = nI i from rfl) (by omega) (by decide) dX3_deposit_41 ?_
        refine lv_iload_n hx hb dX3_deposit_42 rfl (lv_at hl 2 rfl) ?_
        refine lv_iadd hx hb dX3_deposit_43 ?_
        refine giast (j := i) hx hb hK hP hD hS 1 0 rfl rfl (show (nI i : Int32) = nI i from rfl) (by omega) (by decide) dX3_deposit_44 (fun H locs hP hD hS => ?_)
        have hP : va_P G vwCl (cM T x1 A (upd I1 17 0) (updA F 2 (upd (F 2) i (((F 2) i) + p1)))) H := hP
        have hD : va_D (va_A (cM T x1 A I1 F) s.heap.size) (cM T x1 A (upd I1 17 0) (updA F 2 (upd (F 2) i (((F 2) i) + p1)))) := hD
        refine lv_aload_n hx hb dX3_deposit_45 rfl (lv_at hl 0 rfl) ?_
        refine va_get (D := G) (ci := 3) (v := .ref (A 2)) (C := RX3) (T := TX3) (N := 18) hx hb hts hiRX3 hown hK hP 0 rfl rfl 2 (by decide) (hts (.fieldLink RX3 7 "NameAuctionModel" "funds" "[I") (by decide +kernel)) (fun _ h9 => h9) rfl dX3_deposit_46 ?_
        refine lv_iload_n hx hb dX3_deposit_49 rfl (lv_at hl 1 rfl) ?_
        refine giald (j := i) hx hb hK hP 1 0 rfl rfl (show (nI i : Int32) = nI i from rfl) (by omega) (by decide) dX3_deposit_50 ?_
        exact W.iret (v := (upd (F 2) i (((F 2) i) + p1)) i) hx hb hr (fun t ht9 hW => ⟨⟨(upd (F 2) i (((F 2) i) + p1)) i, (), rfl, (show ((upd (F 2) i (((F 2) i) + p1)) i) = (F 2 i + p1) from by simp [upd, updA]).trans (if_pos (show (kDep p0 p1) = 0 by simp [kDep, c30, t5, t19])).symm, gBi ht9 (gfin hP (mfinT (by simp [kDep, c30, t5, t19]) (rfl) (rfl)))⟩, hS.F ht9⟩) hS.2.2 dX3_deposit_51
      · exact absurd c30 (by decide)
  · skip
    have t5 : (okI p0 6) = false := bI_f c5
    refine lv_iconst (v := 1) hx hb dX3_deposit_8 (by decide) ?_
    refine lv_goto (tgt := 27) hx hb dX3_deposit_9 (by decide) ?_
    refine gciT (X := ([] : va_W)) (va_runV (As := [.int 1]) (rest := []) ⟨hx, hb, hml, hown, hts⟩ (kX3_fails l G T x1 A I1 F 1 _) (cwV 1 hts gX3_deposit_X3_fails rfl rfl rfl (by decide +kernel) ⟨Nat.le_of_ble_eq_true rfl, Nat.le_of_ble_eq_true rfl⟩) ⟨gblind, va_recv hK hP (ci := 3) (q0 := 0) rfl rfl, gpreT (X := ([] : va_W)) hE hK hP hD hS hA⟩ rfl rfl hl.1 rfl (lv_room (Nat.le_of_ble_eq_true rfl)) dX3_deposit_27 ⟨Nat.le_of_ble_eq_true rfl, Nat.le_of_ble_eq_true rfl⟩) hP hD hS hA cM_fst (fun r9 H locs hw hP hD hS => ?_)
    have hP : va_P G vwCl (cM T x1 A (upd I1 17 1) F) H := hP
    have hD : va_D (va_A (cM T x1 A I1 F) s.heap.size) (cM T x1 A (upd I1 17 1) F) := hD
    subst hw
    refine gtop (y := 1) (by decide) ?_
    refine lv_if_eq (tgt := 35) hx hb dX3_deposit_30 (by decide) (fun c30 => ?_) (fun c30 => ?_)
    · exact absurd c30 (by decide)
    · skip
      refine lv_iconst (v := 0) hx hb dX3_deposit_33 (by decide) ?_
      exact W.iret (v := 0) hx hb hr (fun t ht9 hW => ⟨⟨0, (), rfl, (if_neg (by simp [kDep, c30, t5])).symm, gBi ht9 (gfin hP (mfinF (by simp [kDep, c30, t5]) (congrArg (upd I1 17) (by simp [w3, kDep, c30, t5])) rfl))⟩, hS.F ht9⟩) hS.2.2 dX3_deposit_34
abbrev PX3_funds (G : va_G) (T : Nat → ClassId) (x1 : Nat) (A : Nat → Nat) (I1 : Nat → Int32) (F : Nat → Nat → Int32) (i : Nat) (p0 : Int32) (sz : Nat) : Array Value → State → Prop := gPc G T [.ref x1, .int p0] (cM T x1 A I1 F) sz
abbrev QX3_funds (G : va_G) (T : Nat → ClassId) (x1 : Nat) (A : Nat → Nat) (I1 : Nat → Int32) (F : Nat → Nat → Int32) (i : Nat) (p0 : Int32) (sz : Nat) : Array Value → State → Outcome → State → Prop := va_Qi (fun (r : Int32) (_ : Unit) => r = if (kOwn p0) = 0 then F 2 i else 0) (gB G (cM T x1 A (if (kOwn p0) = 0 then (upd I1 17 0) else upd I1 17 (w3 (kOwn p0))) (if (kOwn p0) = 0 then F else F))) (va_A (cM T x1 A I1 F) sz)
set_option maxHeartbeats 4000000 in
set_option maxRecDepth 100000 in
theorem kX3_funds (l : Launch) (G : va_G) (T : Nat → ClassId) (x1 : Nat) (A : Nat → Nat) (I1 : Nat → Int32) (F : Nat → Nat → Int32) (i : Nat) (p0 : Int32) (sz : Nat) (hi : okI p0 6 = true → p0 = nI i ∧ i < 6) : Met l yX3_funds wsX3_funds ({ frames := 2, cells := 0, slots := 0, locals := 42 } : Room) (PX3_funds G T x1 A I1 F i p0 sz) (QX3_funds G T x1 A I1 F i p0 sz) 0 0 (va_A (cM T x1 A I1 F) sz) := by
  refine Met.ofW (cc := cX3_funds) (maxL := 2) (ret := (some .int)) (by decide) rfl ?_
  intro p e s m args below meth c s₁ B hml hv
  obtain ⟨rfl, hsz, hP, hK, hD0, hE⟩ := hv
  have hx := B.exec
  have hb := B.bytes
  have hr := B.returns
  have hts := atoms_spec (ws := wsX3_funds) B.pre
  have hown : s.vm.findClass RX3 = some m.cls := findClass_of_methodNamed B.named
  have hlocks := B.notSynchronized
  subst hsz
  have hD := hD0.self (sz := s.heap.size)
  have hA : ∀ q : Nat, s.heap.size ≤ q → (va_A (cM T x1 A I1 F) s.heap.size) q := fun q h => Or.inr h
  have hS : va_S (va_A (cM T x1 A I1 F) s.heap.size) s.heap s.heap [] := va_S.rf
  have hiRX3 : ∀ w ∈ u_ws RX3 TX3 18, w ∈ wsX3_funds := by decide +kernel
  have hl := lv_entry ([.ref x1, .int p0]) (n := 2) (Nat.le_of_ble_eq_true rfl)
  rw [lg_entry_eq]
  generalize (lg_sl ([.ref x1, .int p0]) ++ List.replicate (2 - (lg_sl ([.ref x1, .int p0])).length) Slot.unset).toArray = ls at hl ⊢
  have hl : lv_has ls 2 [(0, .ref x1), (1, .int p0)] := hl
  have hP : va_P G vwCl (cM T x1 A I1 F) s.heap := hP
  refine lv_aload_n hx hb dX3_funds_0 rfl (lv_at hl 0 rfl) ?_
  refine lv_iload_n hx hb dX3_funds_1 rfl (lv_at hl 1 rfl) ?_
  refine gci (va_runS (As := [.int p0]) (rest := [.ref x1]) ⟨hx, hb, hml, hown, hts⟩ (kX3_isOwner l G T p0 _) (va_cwS 1 hts gX3_funds_X3_isOwner rfl rfl rfl (by decide +kernel) ⟨Nat.le_of_ble_eq_true rfl, Nat.le_of_ble_eq_true rfl⟩) ⟨gblind, gpre hE hK hP hD hS hA [] rfl rfl⟩ rfl rfl hl.1 rfl (lv_room (Nat.le_of_ble_eq_true rfl)) dX3_funds_2 ⟨Nat.le_of_ble_eq_true rfl, Nat.le_of_ble_eq_true rfl⟩) hP hD hS hA [] rfl rfl (fun r9 H locs hw hP hD hS => ?_)
  have hP : va_P G vwCl (cM T x1 A I1 F) H := hP
  have hD : va_D (va_A (cM T x1 A I1 F) s.heap.size) (cM T x1 A I1 F) := hD
  subst hw
  refine lv_if_eq (tgt := 12) hx hb dX3_funds_5 (by decide) (fun c5 => ?_) (fun c5 => ?_)
  · skip
    have t5 : (okI p0 6) = false := bI_f c5
    refine lv_iconst (v := 1) hx hb dX3_funds_12 (by decide) ?_
    refine gciT (X := ([] : va_W)) (va_runV (As := [.int 1]) (rest := []) ⟨hx, hb, hml, hown, hts⟩ (kX3_fails l G T x1 A I1 F 1 _) (cwV 1 hts gX3_funds_X3_fails rfl rfl rfl (by decide +kernel) ⟨Nat.le_of_ble_eq_true rfl, Nat.le_of_ble_eq_true rfl⟩) ⟨gblind, va_recv hK hP (ci := 3) (q0 := 0) rfl rfl, gpreT (X := ([] : va_W)) hE hK hP hD hS hA⟩ rfl rfl hl.1 rfl (lv_room (Nat.le_of_ble_eq_true rfl)) dX3_funds_13 ⟨Nat.le_of_ble_eq_true rfl, Nat.le_of_ble_eq_true rfl⟩) hP hD hS hA cM_fst (fun r9 H locs hw hP hD hS => ?_)
    have hP : va_P G vwCl (cM T x1 A (upd I1 17 1) F) H := hP
    have hD : va_D (va_A (cM T x1 A I1 F) s.heap.size) (cM T x1 A (upd I1 17 1) F) := hD
    subst hw
    refine gtop (y := 1) (by decide) ?_
    refine lv_if_eq (tgt := 23) hx hb dX3_funds_16 (by decide) (fun c16 => ?_) (fun c16 => ?_)
    · exact absurd c16 (by decide)
    · skip
      refine lv_iconst (v := 0) hx hb dX3_funds_19 (by decide) ?_
      refine lv_goto (tgt := 29) hx hb dX3_funds_20 (by decide) ?_
      exact W.iret (v := 0) hx hb hr (fun t ht9 hW => ⟨⟨0, (), rfl, (if_neg (by simp [kOwn, c16, t5])).symm, gBi ht9 (gfin hP (mfinF (by simp [kOwn, c16, t5]) (congrArg (upd I1 17) (by simp [w3, kOwn, c16, t5])) rfl))⟩, hS.F ht9⟩) hS.2.2 dX3_funds_29
  · skip
    have t5 : (okI p0 6) = true := bI_t c5
    have e0 := hi t5
    obtain ⟨e0a, e0b⟩ := e0
    rw [show Value.int p0 = Value.int (nI i) from congrArg Value.int e0a] at hl
    refine lv_iconst (v := 0) hx hb dX3_funds_8 (by decide) ?_
    refine lv_goto (tgt := 13) hx hb dX3_funds_9 (by decide) ?_
    refine gciT (X := ([] : va_W)) (va_runV (As := [.int 0]) (rest := []) ⟨hx, hb, hml, hown, hts⟩ (kX3_fails l G T x1 A I1 F 0 _) (cwV 1 hts gX3_funds_X3_fails rfl rfl rfl (by decide +kernel) ⟨Nat.le_of_ble_eq_true rfl, Nat.le_of_ble_eq_true rfl⟩) ⟨gblind, va_recv hK hP (ci := 3) (q0 := 0) rfl rfl, gpreT (X := ([] : va_W)) hE hK hP hD hS hA⟩ rfl rfl hl.1 rfl (lv_room (Nat.le_of_ble_eq_true rfl)) dX3_funds_13 ⟨Nat.le_of_ble_eq_true rfl, Nat.le_of_ble_eq_true rfl⟩) hP hD hS hA cM_fst (fun r9 H locs hw hP hD hS => ?_)
    have hP : va_P G vwCl (cM T x1 A (upd I1 17 0) F) H := hP
    have hD : va_D (va_A (cM T x1 A I1 F) s.heap.size) (cM T x1 A (upd I1 17 0) F) := hD
    subst hw
    refine gtop (y := 0) (by decide) ?_
    refine lv_if_eq (tgt := 23) hx hb dX3_funds_16 (by decide) (fun c16 => ?_) (fun c16 => ?_)
    · skip
      refine lv_aload_n hx hb dX3_funds_23 rfl (lv_at hl 0 rfl) ?_
      refine va_get (D := G) (ci := 3) (v := .ref (A 2)) (C := RX3) (T := TX3) (N := 18) hx hb hts hiRX3 hown hK hP 0 rfl rfl 2 (by decide) (hts (.fieldLink RX3 7 "NameAuctionModel" "funds" "[I") (by decide +kernel)) (fun _ h9 => h9) rfl dX3_funds_24 ?_
      refine lv_iload_n hx hb dX3_funds_27 rfl (lv_at hl 1 rfl) ?_
      refine giald (j := i) hx hb hK hP 1 0 rfl rfl (show (nI i : Int32) = nI i from rfl) (by omega) (by decide) dX3_funds_28 ?_
      exact W.iret (v := (F 2) i) hx hb hr (fun t ht9 hW => ⟨⟨(F 2) i, (), rfl, (if_pos (show (kOwn p0) = 0 by simp [kOwn, c16, t5])).symm, gBi ht9 (gfin hP (mfinT (by simp [kOwn, c16, t5]) (rfl) (rfl)))⟩, hS.F ht9⟩) hS.2.2 dX3_funds_29
    · exact absurd c16 (by decide)
abbrev PX3_bid (G : va_G) (T : Nat → ClassId) (x1 : Nat) (A : Nat → Nat) (I1 : Nat → Int32) (F : Nat → Nat → Int32) (i j : Nat) (p0 p1 p2 : Int32) (sz : Nat) : Array Value → State → Prop := gPc G T [.ref x1, .int p0, .int p1, .int p2] (cM T x1 A I1 F) sz
abbrev QX3_bid (G : va_G) (T : Nat → ClassId) (x1 : Nat) (A : Nat → Nat) (I1 : Nat → Int32) (F : Nat → Nat → Int32) (i j : Nat) (p0 p1 p2 : Int32) (sz : Nat) : Array Value → State → Outcome → State → Prop := va_Qi (fun (r : Int32) (_ : Unit) => r = if (cBid F j p0 p1 p2) = 0 then mBidR I1 F j else 0) (gB G (cM T x1 A (if (cBid F j p0 p1 p2) = 0 then (upd (upd I1 17 0) 13 (I1 13 + 1)) else upd I1 17 (w3 (cBid F j p0 p1 p2))) (if (cBid F j p0 p1 p2) = 0 then (mBidF I1 F j i p2) else F))) (va_A (cM T x1 A I1 F) sz)
set_option maxHeartbeats 4000000 in
set_option maxRecDepth 100000 in
theorem kX3_bid (l : Launch) (G : va_G) (T : Nat → ClassId) (x1 : Nat) (A : Nat → Nat) (I1 : Nat → Int32) (F : Nat → Nat → Int32) (i j : Nat) (p0 p1 p2 : Int32) (sz : Nat) (hi : okI p0 6 = true → p0 = nI i ∧ i < 6) (hj : okI p1 16 = true → p1 = nI j ∧ j < 16) : Met l yX3_bid wsX3_bid ({ frames := 2, cells := 0, slots := 0, locals := 42 } : Room) (PX3_bid G T x1 A I1 F i j p0 p1 p2 sz) (QX3_bid G T x1 A I1 F i j p0 p1 p2 sz) 0 0 (va_A (cM T x1 A I1 F) sz) := by
  refine Met.ofW (cc := cX3_bid) (maxL := 5) (ret := (some .int)) (by decide) rfl ?_
  intro p e s m args below meth c s₁ B hml hv
  obtain ⟨rfl, hsz, hP, hK, hD0, hE⟩ := hv
  have hx := B.exec
  have hb := B.bytes
  have hr := B.returns
  have hts := atoms_spec (ws := wsX3_bid) B.pre
  have hown : s.vm.findClass RX3 = some m.cls := findClass_of_methodNamed B.named
  have hlocks := B.notSynchronized
  subst hsz
  have hD := hD0.self (sz := s.heap.size)
  have hA : ∀ q : Nat, s.heap.size ≤ q → (va_A (cM T x1 A I1 F) s.heap.size) q := fun q h => Or.inr h
  have hS : va_S (va_A (cM T x1 A I1 F) s.heap.size) s.heap s.heap [] := va_S.rf
  have hiRX3 : ∀ w ∈ u_ws RX3 TX3 18, w ∈ wsX3_bid := by decide +kernel
  have hl := lv_entry ([.ref x1, .int p0, .int p1, .int p2]) (n := 5) (Nat.le_of_ble_eq_true rfl)
  rw [lg_entry_eq]
  generalize (lg_sl ([.ref x1, .int p0, .int p1, .int p2]) ++ List.replicate (5 - (lg_sl ([.ref x1, .int p0, .int p1, .int p2])).length) Slot.unset).toArray = ls at hl ⊢
  have hl : lv_has ls 5 [(0, .ref x1), (1, .int p0), (2, .int p1), (3, .int p2)] := hl
  have hP : va_P G vwCl (cM T x1 A I1 F) s.heap := hP
  refine lv_iload_n hx hb dX3_bid_0 rfl (lv_at hl 1 rfl) ?_
  refine gci (va_runS (As := [.int p0]) (rest := []) ⟨hx, hb, hml, hown, hts⟩ (kX3_isOwner l G T p0 _) (va_cwS 1 hts gX3_bid_X3_isOwner rfl rfl rfl (by decide +kernel) ⟨Nat.le_of_ble_eq_true rfl, Nat.le_of_ble_eq_true rfl⟩) ⟨gblind, gpre hE hK hP hD hS hA [] rfl rfl⟩ rfl rfl hl.1 rfl (lv_room (Nat.le_of_ble_eq_true rfl)) dX3_bid_1 ⟨Nat.le_of_ble_eq_true rfl, Nat.le_of_ble_eq_true rfl⟩) hP hD hS hA [] rfl rfl (fun r9 H locs hw hP hD hS => ?_)
  have hP : va_P G vwCl (cM T x1 A I1 F) H := hP
  have hD : va_D (va_A (cM T x1 A I1 F) s.heap.size) (cM T x1 A I1 F) := hD
  subst hw
  refine lv_if_eq (tgt := 18) hx hb dX3_bid_4 (by decide) (fun c4 => ?_) (fun c4 => ?_)
  · skip
    have t4 : (okI p0 6) = false := bI_f c4
    refine lv_iconst (v := 0) hx hb dX3_bid_18 (by decide) ?_
    refine lv_istore (lv' := [(4, .int 0), (0, .ref x1), (1, .int p0), (2, .int p1), (3, .int p2)]) hx hb dX3_bid_19 hl (by decide) rfl (fun ls hl => ?_)
    refine lv_aload_n hx hb dX3_bid_21 rfl (lv_at hl 1 rfl) ?_
    refine lv_iload hx hb dX3_bid_22 (lv_at hl 0 rfl) ?_
    refine lv_if_ne (tgt := 31) hx hb dX3_bid_24 (by decide) (fun c24 => ?_) (fun c24 => ?_)
    · exact absurd c24 (by decide)
    · skip
      refine lv_iconst (v := 1) hx hb dX3_bid_27 (by decide) ?_
      refine lv_goto (tgt := 61) hx hb dX3_bid_28 (by decide) ?_
      refine gciT (X := ([] : va_W)) (va_runV (As := [.int 1]) (rest := []) ⟨hx, hb, hml, hown, hts⟩ (kX3_fails l G T x1 A I1 F 1 _) (cwV 1 hts gX3_bid_X3_fails rfl rfl rfl (by decide +kernel) ⟨Nat.le_of_ble_eq_true rfl, Nat.le_of_ble_eq_true rfl⟩) ⟨gblind, va_recv hK hP (ci := 3) (q0 := 0) rfl rfl, gpreT (X := ([] : va_W)) hE hK hP hD hS hA⟩ rfl rfl hl.1 rfl (lv_room (Nat.le_of_ble_eq_true rfl)) dX3_bid_61 ⟨Nat.le_of_ble_eq_true rfl, Nat.le_of_ble_eq_true rfl⟩) hP hD hS hA cM_fst (fun r9 H locs hw hP hD hS => ?_)
      have hP : va_P G vwCl (cM T x1 A (upd I1 17 1) F) H := hP
      have hD : va_D (va_A (cM T x1 A I1 F) s.heap.size) (cM T x1 A (upd I1 17 1) F) := hD
      subst hw
      refine gtop (y := 1) (by decide) ?_
      refine lv_if_eq (tgt := 69) hx hb dX3_bid_64 (by decide) (fun c64 => ?_) (fun c64 => ?_)
      · exact absurd c64 (by decide)
      · skip
        refine lv_iconst (v := 0) hx hb dX3_bid_67 (by decide) ?_
        exact W.iret (v := 0) hx hb hr (fun t ht9 hW => ⟨⟨0, (), rfl, (if_neg (by simp [cBid, c24, c64, t4])).symm, gBi ht9 (gfin hP (mfinF (by simp [cBid, c24, c64, t4]) (congrArg (upd I1 17) (by simp [w3, cBid, c24, c64, t4])) rfl))⟩, hS.F ht9⟩) hS.2.2 dX3_bid_68
  · skip
    have t4 : (okI p0 6) = true := bI_t c4
    have e0 := hi t4
    obtain ⟨e0a, e0b⟩ := e0
    rw [show Value.int p0 = Value.int (nI i) from congrArg Value.int e0a] at hl
    refine lv_iload_n hx hb dX3_bid_7 rfl (lv_at hl 2 rfl) ?_
    refine gci (va_runS (As := [.int p1]) (rest := []) ⟨hx, hb, hml, hown, hts⟩ (kX3_isName l G T p1 _) (va_cwS 1 hts gX3_bid_X3_isName rfl rfl rfl (by decide +kernel) ⟨Nat.le_of_ble_eq_true rfl, Nat.le_of_ble_eq_true rfl⟩) ⟨gblind, gpre hE hK hP hD hS hA [] rfl rfl⟩ rfl rfl hl.1 rfl (lv_room (Nat.le_of_ble_eq_true rfl)) dX3_bid_8 ⟨Nat.le_of_ble_eq_true rfl, Nat.le_of_ble_eq_true rfl⟩) hP hD hS hA [] rfl rfl (fun r9 H locs hw hP hD hS => ?_)
    have hP : va_P G vwCl (cM T x1 A I1 F) H := hP
    have hD : va_D (va_A (cM T x1 A I1 F) s.heap.size) (cM T x1 A I1 F) := hD
    subst hw
    refine lv_if_eq (tgt := 18) hx hb dX3_bid_11 (by decide) (fun c11 => ?_) (fun c11 => ?_)
    · skip
      have t11 : (okI p1 16) = false := bI_f c11
      refine lv_iconst (v := 0) hx hb dX3_bid_18 (by decide) ?_
      refine lv_istore (lv' := [(4, .int 0), (0, .ref x1), (1, .int (nI i)), (2, .int p1), (3, .int p2)]) hx hb dX3_bid_19 hl (by decide) rfl (fun ls hl => ?_)
      refine lv_aload_n hx hb dX3_bid_21 rfl (lv_at hl 1 rfl) ?_
      refine lv_iload hx hb dX3_bid_22 (lv_at hl 0 rfl) ?_
      refine lv_if_ne (tgt := 31) hx hb dX3_bid_24 (by decide) (fun c24 => ?_) (fun c24 => ?_)
      · exact absurd c24 (by decide)
      · skip
        refine lv_iconst (v := 1) hx hb dX3_bid_27 (by decide) ?_
        refine lv_goto (tgt := 61) hx hb dX3_bid_28 (by decide) ?_
        refine gciT (X := ([] : va_W)) (va_runV (As := [.int 1]) (rest := []) ⟨hx, hb, hml, hown, hts⟩ (kX3_fails l G T x1 A I1 F 1 _) (cwV 1 hts gX3_bid_X3_fails rfl rfl rfl (by decide +kernel) ⟨Nat.le_of_ble_eq_true rfl, Nat.le_of_ble_eq_true rfl⟩) ⟨gblind, va_recv hK hP (ci := 3) (q0 := 0) rfl rfl, gpreT (X := ([] : va_W)) hE hK hP hD hS hA⟩ rfl rfl hl.1 rfl (lv_room (Nat.le_of_ble_eq_true rfl)) dX3_bid_61 ⟨Nat.le_of_ble_eq_true rfl, Nat.le_of_ble_eq_true rfl⟩) hP hD hS hA cM_fst (fun r9 H locs hw hP hD hS => ?_)
        have hP : va_P G vwCl (cM T x1 A (upd I1 17 1) F) H := hP
        have hD : va_D (va_A (cM T x1 A I1 F) s.heap.size) (cM T x1 A (upd I1 17 1) F) := hD
        subst hw
        refine gtop (y := 1) (by decide) ?_
        refine lv_if_eq (tgt := 69) hx hb dX3_bid_64 (by decide) (fun c64 => ?_) (fun c64 => ?_)
        · exact absurd c64 (by decide)
        · skip
          refine lv_iconst (v := 0) hx hb dX3_bid_67 (by decide) ?_
          exact W.iret (v := 0) hx hb hr (fun t ht9 hW => ⟨⟨0, (), rfl, (if_neg (by simp [cBid, c24, c64, t4, t11])).symm, gBi ht9 (gfin hP (mfinF (by simp [cBid, c24, c64, t4, t11]) (congrArg (upd I1 17) (by simp [w3, cBid, c24, c64, t4, t11])) rfl))⟩, hS.F ht9⟩) hS.2.2 dX3_bid_68
    · skip
      have t11 : (okI p1 16) = true := bI_t c11
      have e1 := hj t11
      obtain ⟨e1a, e1b⟩ := e1
      rw [show Value.int p1 = Value.int (nI j) from congrArg Value.int e1a] at hl
      refine lv_iconst (v := 1) hx hb dX3_bid_14 (by decide) ?_
      refine lv_goto (tgt := 19) hx hb dX3_bid_15 (by decide) ?_
      refine lv_istore (lv' := [(4, .int 1), (0, .ref x1), (1, .int (nI i)), (2, .int (nI j)), (3, .int p2)]) hx hb dX3_bid_19 hl (by decide) rfl (fun ls hl => ?_)
      refine lv_aload_n hx hb dX3_bid_21 rfl (lv_at hl 1 rfl) ?_
      refine lv_iload hx hb dX3_bid_22 (lv_at hl 0 rfl) ?_
      refine lv_if_ne (tgt := 31) hx hb dX3_bid_24 (by decide) (fun c24 => ?_) (fun c24 => ?_)
      · skip
        refine lv_iload_n hx hb dX3_bid_31 rfl (lv_at hl 4 rfl) ?_
        refine lv_bipush (v := 10) hx hb dX3_bid_32 (by decide) ?_
        refine lv_ldc (v := 100000) hx hb hown (hts (.constant RX3 64 100000) (by decide +kernel)) dX3_bid_34 ?_
        refine gci (va_runS (As := [.int p2, .int 10, .int 100000]) (rest := [.ref x1]) ⟨hx, hb, hml, hown, hts⟩ (kX3_isIn l G T p2 10 100000 _) (va_cwS 3 hts gX3_bid_X3_isIn rfl rfl rfl (by decide +kernel) ⟨Nat.le_of_ble_eq_true rfl, Nat.le_of_ble_eq_true rfl⟩) ⟨gblind, gpre hE hK hP hD hS hA [] rfl rfl⟩ rfl rfl hl.1 rfl (lv_room (Nat.le_of_ble_eq_true rfl)) dX3_bid_36 ⟨Nat.le_of_ble_eq_true rfl, Nat.le_of_ble_eq_true rfl⟩) hP hD hS hA [] rfl rfl (fun r9 H locs hw hP hD hS => ?_)
        have hP : va_P G vwCl (cM T x1 A I1 F) H := hP
        have hD : va_D (va_A (cM T x1 A I1 F) s.heap.size) (cM T x1 A I1 F) := hD
        subst hw
        refine lv_if_ne (tgt := 46) hx hb dX3_bid_39 (by decide) (fun c39 => ?_) (fun c39 => ?_)
        · skip
          have t39 : (okR p2 10 100000) = true := bI_t c39
          refine lv_aload_n hx hb dX3_bid_46 rfl (lv_at hl 1 rfl) ?_
          refine va_get (D := G) (ci := 3) (v := .ref (A 3)) (C := RX3) (T := TX3) (N := 18) hx hb hts hiRX3 hown hK hP 0 rfl rfl 3 (by decide) (hts (.fieldLink RX3 13 "NameAuctionModel" "state" "[I") (by decide +kernel)) (fun _ h9 => h9) rfl dX3_bid_47 ?_
          refine lv_iload_n hx hb dX3_bid_50 rfl (lv_at hl 3 rfl) ?_
          refine giald (j := j) hx hb hK hP 2 0 rfl rfl (show (nI j : Int32) = nI j from rfl) (by omega) (by decide) dX3_bid_51 ?_
          refine lv_iconst (v := 1) hx hb dX3_bid_52 (by decide) ?_
          refine lv_icmp_le (tgt := 60) hx hb dX3_bid_53 (by decide) (fun c53 => ?_) (fun c53 => ?_)
          · skip
            refine lv_iconst (v := 0) hx hb dX3_bid_60 (by decide) ?_
            refine gciT (X := ([] : va_W)) (va_runV (As := [.int 0]) (rest := []) ⟨hx, hb, hml, hown, hts⟩ (kX3_fails l G T x1 A I1 F 0 _) (cwV 1 hts gX3_bid_X3_fails rfl rfl rfl (by decide +kernel) ⟨Nat.le_of_ble_eq_true rfl, Nat.le_of_ble_eq_true rfl⟩) ⟨gblind, va_recv hK hP (ci := 3) (q0 := 0) rfl rfl, gpreT (X := ([] : va_W)) hE hK hP hD hS hA⟩ rfl rfl hl.1 rfl (lv_room (Nat.le_of_ble_eq_true rfl)) dX3_bid_61 ⟨Nat.le_of_ble_eq_true rfl, Nat.le_of_ble_eq_true rfl⟩) hP hD hS hA cM_fst (fun r9 H locs hw hP hD hS => ?_)
            have hP : va_P G vwCl (cM T x1 A (upd I1 17 0) F) H := hP
            have hD : va_D (va_A (cM T x1 A I1 F) s.heap.size) (cM T x1 A (upd I1 17 0) F) := hD
            subst hw
            refine gtop (y := 0) (by decide) ?_
            refine lv_if_eq (tgt := 69) hx hb dX3_bid_64 (by decide) (fun c64 => ?_) (fun c64 => ?_)
            · skip
              refine lv_aload_n hx hb dX3_bid_69 rfl (lv_at hl 1 rfl) ?_
              refine va_get (D := G) (ci := 3) (v := .ref (A 3)) (C := RX3) (T := TX3) (N := 18) hx hb hts hiRX3 hown hK hP 0 rfl rfl 3 (by decide) (hts (.fieldLink RX3 13 "NameAuctionModel" "state" "[I") (by decide +kernel)) (fun _ h9 => h9) rfl dX3_bid_70 ?_
              refine lv_iload_n hx hb dX3_bid_73 rfl (lv_at hl 3 rfl) ?_
              refine giald (j := j) hx hb hK hP 2 0 rfl rfl (show (nI j : Int32) = nI j from rfl) (by omega) (by decide) dX3_bid_74 ?_
              refine lv_if_ne (tgt := 97) hx hb dX3_bid_75 (by decide) (fun c75 => ?_) (fun c75 => ?_)
              · skip
                refine lv_aload_n hx hb dX3_bid_97 rfl (lv_at hl 1 rfl) ?_
                refine va_get (D := G) (ci := 3) (v := .ref (A 11)) (C := RX3) (T := TX3) (N := 18) hx hb hts hiRX3 hown hK hP 0 rfl rfl 11 (by decide) (hts (.fieldLink RX3 37 "NameAuctionModel" "amount" "[I") (by decide +kernel)) (fun _ h9 => h9) rfl dX3_bid_98 ?_
                refine lv_bipush (v := 6) hx hb dX3_bid_101 (by decide) ?_
                refine lv_iload_n hx hb dX3_bid_103 rfl (lv_at hl 3 rfl) ?_
                refine lv_imul hx hb dX3_bid_104 ?_
                refine gtop (y := nI (6 * j)) (pk_mul 6 j) ?_
                refine lv_iload_n hx hb dX3_bid_105 rfl (lv_at hl 2 rfl) ?_
                refine lv_iadd hx hb dX3_bid_106 ?_
                refine gtop (y := nI ((6 * j) + i)) (nI_add (6 * j) i) ?_
                refine lv_iload_n hx hb dX3_bid_107 rfl (lv_at hl 4 rfl) ?_
                refine giast (j := ((6 * j) + i)) hx hb hK hP hD hS 10 0 rfl rfl (show (nI ((6 * j) + i) : Int32) = nI ((6 * j) + i) from rfl) (by omega) (by decide) dX3_bid_108 (fun H locs hP hD hS => ?_)
                have hP : va_P G vwCl (cM T x1 A (upd I1 17 0) (updA F 11 (upd (F 11) ((6 * j) + i) p2))) H := hP
                have hD : va_D (va_A (cM T x1 A I1 F) s.heap.size) (cM T x1 A (upd I1 17 0) (updA F 11 (upd (F 11) ((6 * j) + i) p2))) := hD
                refine lv_aload_n hx hb dX3_bid_109 rfl (lv_at hl 1 rfl) ?_
                refine va_get (D := G) (ci := 3) (v := .ref (A 12)) (C := RX3) (T := TX3) (N := 18) hx hb hts hiRX3 hown hK hP 0 rfl rfl 12 (by decide) (hts (.fieldLink RX3 40 "NameAuctionModel" "came" "[I") (by decide +kernel)) (fun _ h9 => h9) rfl dX3_bid_110 ?_
                refine lv_bipush (v := 6) hx hb dX3_bid_113 (by decide) ?_
                refine lv_iload_n hx hb dX3_bid_115 rfl (lv_at hl 3 rfl) ?_
                refine lv_imul hx hb dX3_bid_116 ?_
                refine gtop (y := nI (6 * j)) (pk_mul 6 j) ?_
                refine lv_iload_n hx hb dX3_bid_117 rfl (lv_at hl 2 rfl) ?_
                refine lv_iadd hx hb dX3_bid_118 ?_
                refine gtop (y := nI ((6 * j) + i)) (nI_add (6 * j) i) ?_
                refine lv_aload_n hx hb dX3_bid_119 rfl (lv_at hl 1 rfl) ?_
                refine va_get (D := G) (ci := 3) (v := .int (I1 13)) (C := RX3) (T := TX3) (N := 18) hx hb hts hiRX3 hown hK hP 0 rfl rfl 13 (by decide) (hts (.fieldLink RX3 74 "NameAuctionModel" "clock" "I") (by decide +kernel)) (fun _ h9 => h9) rfl dX3_bid_120 ?_
                refine giast (j := ((6 * j) + i)) hx hb hK hP hD hS 11 0 rfl rfl (show (nI ((6 * j) + i) : Int32) = nI ((6 * j) + i) from rfl) (by omega) (by decide) dX3_bid_123 (fun H locs hP hD hS => ?_)
                have hP : va_P G vwCl (cM T x1 A (upd I1 17 0) (updA (updA F 11 (upd (F 11) ((6 * j) + i) p2)) 12 (upd (F 12) ((6 * j) + i) (I1 13)))) H := hP
                have hD : va_D (va_A (cM T x1 A I1 F) s.heap.size) (cM T x1 A (upd I1 17 0) (updA (updA F 11 (upd (F 11) ((6 * j) + i) p2)) 12 (upd (F 12) ((6 * j) + i) (I1 13)))) := hD
                refine lv_aload_n hx hb dX3_bid_124 rfl (lv_at hl 1 rfl) ?_
                refine lv_dup hx hb dX3_bid_125 rfl ?_
                refine va_get (D := G) (ci := 3) (v := .int (I1 13)) (C := RX3) (T := TX3) (N := 18) hx hb hts hiRX3 hown hK hP 0 rfl rfl 13 (by decide) (hts (.fieldLink RX3 74 "NameAuctionModel" "clock" "I") (by decide +kernel)) (fun _ h9 => h9) rfl dX3_bid_126 ?_
                refine lv_iconst (v := 1) hx hb dX3_bid_129 (by decide) ?_
                refine lv_iadd hx hb dX3_bid_130 ?_
                refine va_put (D := G) (ci := 3) (v := .int ((I1 13) + 1)) (ty := .int) (C := RX3) (T := TX3) (N := 18) hx hb hts hiRX3 tyX3 tyX3_ok nmX3 hown hK hP hD hS 0 rfl rfl 13 (by decide) (hts (.fieldLink RX3 74 "NameAuctionModel" "clock" "I") (by decide +kernel)) (fun _ h9 => h9) rfl (by decide +kernel) rfl rfl (Nat.le_of_ble_eq_true rfl) dX3_bid_131 (fun H locs hP hD hS => ?_)
                have hP : va_P G vwCl (cM T x1 A (upd (upd I1 17 0) 13 ((I1 13) + 1)) (updA (updA F 11 (upd (F 11) ((6 * j) + i) p2)) 12 (upd (F 12) ((6 * j) + i) (I1 13)))) H := hP
                have hD : va_D (va_A (cM T x1 A I1 F) s.heap.size) (cM T x1 A (upd (upd I1 17 0) 13 ((I1 13) + 1)) (updA (updA F 11 (upd (F 11) ((6 * j) + i) p2)) 12 (upd (F 12) ((6 * j) + i) (I1 13)))) := hD
                refine lv_aload_n hx hb dX3_bid_134 rfl (lv_at hl 1 rfl) ?_
                refine va_get (D := G) (ci := 3) (v := .ref (A 5)) (C := RX3) (T := TX3) (N := 18) hx hb hts hiRX3 hown hK hP 0 rfl rfl 5 (by decide) (hts (.fieldLink RX3 19 "NameAuctionModel" "day" "[I") (by decide +kernel)) (fun _ h9 => h9) rfl dX3_bid_135 ?_
                refine lv_iload_n hx hb dX3_bid_138 rfl (lv_at hl 3 rfl) ?_
                refine giald (j := j) hx hb hK hP 4 0 rfl rfl (show (nI j : Int32) = nI j from rfl) (by omega) (by decide) dX3_bid_139 ?_
                exact W.iret (v := (F 5) j) hx hb hr (fun t ht9 hW => ⟨⟨(F 5) j, (), rfl, (show ((F 5) j) = (mBidR I1 F j) from by simp [mBidR, upd, updA, c24, c53, c64, c75, t4, t11, t39]).trans (if_pos (show (cBid F j p0 p1 p2) = 0 by simp [cBid, c24, c53, c64, c75, t4, t11, t39])).symm, gBi ht9 (gfin hP (mfinT (by simp [cBid, c24, c53, c64, c75, t4, t11, t39]) (rfl) (by simp [mBidF, c24, c53, c64, c75, t4, t11, t39])))⟩, hS.F ht9⟩) hS.2.2 dX3_bid_140
              · skip
                refine lv_aload_n hx hb dX3_bid_78 rfl (lv_at hl 1 rfl) ?_
                refine va_get (D := G) (ci := 3) (v := .ref (A 3)) (C := RX3) (T := TX3) (N := 18) hx hb hts hiRX3 hown hK hP 0 rfl rfl 3 (by decide) (hts (.fieldLink RX3 13 "NameAuctionModel" "state" "[I") (by decide +kernel)) (fun _ h9 => h9) rfl dX3_bid_79 ?_
                refine lv_iload_n hx hb dX3_bid_82 rfl (lv_at hl 3 rfl) ?_
                refine lv_iconst (v := 1) hx hb dX3_bid_83 (by decide) ?_
                refine giast (j := j) hx hb hK hP hD hS 2 0 rfl rfl (show (nI j : Int32) = nI j from rfl) (by omega) (by decide) dX3_bid_84 (fun H locs hP hD hS => ?_)
                have hP : va_P G vwCl (cM T x1 A (upd I1 17 0) (updA F 3 (upd (F 3) j 1))) H := hP
                have hD : va_D (va_A (cM T x1 A I1 F) s.heap.size) (cM T x1 A (upd I1 17 0) (updA F 3 (upd (F 3) j 1))) := hD
                refine lv_aload_n hx hb dX3_bid_85 rfl (lv_at hl 1 rfl) ?_
                refine va_get (D := G) (ci := 3) (v := .ref (A 5)) (C := RX3) (T := TX3) (N := 18) hx hb hts hiRX3 hown hK hP 0 rfl rfl 5 (by decide) (hts (.fieldLink RX3 19 "NameAuctionModel" "day" "[I") (by decide +kernel)) (fun _ h9 => h9) rfl dX3_bid_86 ?_
                refine lv_iload_n hx hb dX3_bid_89 rfl (lv_at hl 3 rfl) ?_
                refine lv_aload_n hx hb dX3_bid_90 rfl (lv_at hl 1 rfl) ?_
                refine va_get (D := G) (ci := 3) (v := .int (I1 0)) (C := RX3) (T := TX3) (N := 18) hx hb hts hiRX3 hown hK hP 0 rfl rfl 0 (by decide) (hts (.fieldLink RX3 71 "NameAuctionModel" "today" "I") (by decide +kernel)) (fun _ h9 => h9) rfl dX3_bid_91 ?_
                refine lv_iconst (v := 5) hx hb dX3_bid_94 (by decide) ?_
                refine lv_iadd hx hb dX3_bid_95 ?_
                refine giast (j := j) hx hb hK hP hD hS 4 0 rfl rfl (show (nI j : Int32) = nI j from rfl) (by omega) (by decide) dX3_bid_96 (fun H locs hP hD hS => ?_)
                have hP : va_P G vwCl (cM T x1 A (upd I1 17 0) (updA (updA F 3 (upd (F 3) j 1)) 5 (upd (F 5) j ((I1 0) + 5)))) H := hP
                have hD : va_D (va_A (cM T x1 A I1 F) s.heap.size) (cM T x1 A (upd I1 17 0) (updA (updA F 3 (upd (F 3) j 1)) 5 (upd (F 5) j ((I1 0) + 5)))) := hD
                refine lv_aload_n hx hb dX3_bid_97 rfl (lv_at hl 1 rfl) ?_
                refine va_get (D := G) (ci := 3) (v := .ref (A 11)) (C := RX3) (T := TX3) (N := 18) hx hb hts hiRX3 hown hK hP 0 rfl rfl 11 (by decide) (hts (.fieldLink RX3 37 "NameAuctionModel" "amount" "[I") (by decide +kernel)) (fun _ h9 => h9) rfl dX3_bid_98 ?_
                refine lv_bipush (v := 6) hx hb dX3_bid_101 (by decide) ?_
                refine lv_iload_n hx hb dX3_bid_103 rfl (lv_at hl 3 rfl) ?_
                refine lv_imul hx hb dX3_bid_104 ?_
                refine gtop (y := nI (6 * j)) (pk_mul 6 j) ?_
                refine lv_iload_n hx hb dX3_bid_105 rfl (lv_at hl 2 rfl) ?_
                refine lv_iadd hx hb dX3_bid_106 ?_
                refine gtop (y := nI ((6 * j) + i)) (nI_add (6 * j) i) ?_
                refine lv_iload_n hx hb dX3_bid_107 rfl (lv_at hl 4 rfl) ?_
                refine giast (j := ((6 * j) + i)) hx hb hK hP hD hS 10 0 rfl rfl (show (nI ((6 * j) + i) : Int32) = nI ((6 * j) + i) from rfl) (by omega) (by decide) dX3_bid_108 (fun H locs hP hD hS => ?_)
                have hP : va_P G vwCl (cM T x1 A (upd I1 17 0) (updA (updA (updA F 3 (upd (F 3) j 1)) 5 (upd (F 5) j ((I1 0) + 5))) 11 (upd (F 11) ((6 * j) + i) p2))) H := hP
                have hD : va_D (va_A (cM T x1 A I1 F) s.heap.size) (cM T x1 A (upd I1 17 0) (updA (updA (updA F 3 (upd (F 3) j 1)) 5 (upd (F 5) j ((I1 0) + 5))) 11 (upd (F 11) ((6 * j) + i) p2))) := hD
                refine lv_aload_n hx hb dX3_bid_109 rfl (lv_at hl 1 rfl) ?_
                refine va_get (D := G) (ci := 3) (v := .ref (A 12)) (C := RX3) (T := TX3) (N := 18) hx hb hts hiRX3 hown hK hP 0 rfl rfl 12 (by decide) (hts (.fieldLink RX3 40 "NameAuctionModel" "came" "[I") (by decide +kernel)) (fun _ h9 => h9) rfl dX3_bid_110 ?_
                refine lv_bipush (v := 6) hx hb dX3_bid_113 (by decide) ?_
                refine lv_iload_n hx hb dX3_bid_115 rfl (lv_at hl 3 rfl) ?_
                refine lv_imul hx hb dX3_bid_116 ?_
                refine gtop (y := nI (6 * j)) (pk_mul 6 j) ?_
                refine lv_iload_n hx hb dX3_bid_117 rfl (lv_at hl 2 rfl) ?_
                refine lv_iadd hx hb dX3_bid_118 ?_
                refine gtop (y := nI ((6 * j) + i)) (nI_add (6 * j) i) ?_
                refine lv_aload_n hx hb dX3_bid_119 rfl (lv_at hl 1 rfl) ?_
                refine va_get (D := G) (ci := 3) (v := .int (I1 13)) (C := RX3) (T := TX3) (N := 18) hx hb hts hiRX3 hown hK hP 0 rfl rfl 13 (by decide) (hts (.fieldLink RX3 74 "NameAuctionModel" "clock" "I") (by decide +kernel)) (fun _ h9 => h9) rfl dX3_bid_120 ?_
                refine giast (j := ((6 * j) + i)) hx hb hK hP hD hS 11 0 rfl rfl (show (nI ((6 * j) + i) : Int32) = nI ((6 * j) + i) from rfl) (by omega) (by decide) dX3_bid_123 (fun H locs hP hD hS => ?_)
                have hP : va_P G vwCl (cM T x1 A (upd I1 17 0) (updA (updA (updA (updA F 3 (upd (F 3) j 1)) 5 (upd (F 5) j ((I1 0) + 5))) 11 (upd (F 11) ((6 * j) + i) p2)) 12 (upd (F 12) ((6 * j) + i) (I1 13)))) H := hP
                have hD : va_D (va_A (cM T x1 A I1 F) s.heap.size) (cM T x1 A (upd I1 17 0) (updA (updA (updA (updA F 3 (upd (F 3) j 1)) 5 (upd (F 5) j ((I1 0) + 5))) 11 (upd (F 11) ((6 * j) + i) p2)) 12 (upd (F 12) ((6 * j) + i) (I1 13)))) := hD
                refine lv_aload_n hx hb dX3_bid_124 rfl (lv_at hl 1 rfl) ?_
                refine lv_dup hx hb dX3_bid_125 rfl ?_
                refine va_get (D := G) (ci := 3) (v := .int (I1 13)) (C := RX3) (T := TX3) (N := 18) hx hb hts hiRX3 hown hK hP 0 rfl rfl 13 (by decide) (hts (.fieldLink RX3 74 "NameAuctionModel" "clock" "I") (by decide +kernel)) (fun _ h9 => h9) rfl dX3_bid_126 ?_
                refine lv_iconst (v := 1) hx hb dX3_bid_129 (by decide) ?_
                refine lv_iadd hx hb dX3_bid_130 ?_
                refine va_put (D := G) (ci := 3) (v := .int ((I1 13) + 1)) (ty := .int) (C := RX3) (T := TX3) (N := 18) hx hb hts hiRX3 tyX3 tyX3_ok nmX3 hown hK hP hD hS 0 rfl rfl 13 (by decide) (hts (.fieldLink RX3 74 "NameAuctionModel" "clock" "I") (by decide +kernel)) (fun _ h9 => h9) rfl (by decide +kernel) rfl rfl (Nat.le_of_ble_eq_true rfl) dX3_bid_131 (fun H locs hP hD hS => ?_)
                have hP : va_P G vwCl (cM T x1 A (upd (upd I1 17 0) 13 ((I1 13) + 1)) (updA (updA (updA (updA F 3 (upd (F 3) j 1)) 5 (upd (F 5) j ((I1 0) + 5))) 11 (upd (F 11) ((6 * j) + i) p2)) 12 (upd (F 12) ((6 * j) + i) (I1 13)))) H := hP
                have hD : va_D (va_A (cM T x1 A I1 F) s.heap.size) (cM T x1 A (upd (upd I1 17 0) 13 ((I1 13) + 1)) (updA (updA (updA (updA F 3 (upd (F 3) j 1)) 5 (upd (F 5) j ((I1 0) + 5))) 11 (upd (F 11) ((6 * j) + i) p2)) 12 (upd (F 12) ((6 * j) + i) (I1 13)))) := hD
                refine lv_aload_n hx hb dX3_bid_134 rfl (lv_at hl 1 rfl) ?_
                refine va_get (D := G) (ci := 3) (v := .ref (A 5)) (C := RX3) (T := TX3) (N := 18) hx hb hts hiRX3 hown hK hP 0 rfl rfl 5 (by decide) (hts (.fieldLink RX3 19 "NameAuctionModel" "day" "[I") (by decide +kernel)) (fun _ h9 => h9) rfl dX3_bid_135 ?_
                refine lv_iload_n hx hb dX3_bid_138 rfl (lv_at hl 3 rfl) ?_
                refine giald (j := j) hx hb hK hP 4 0 rfl rfl (show (nI j : Int32) = nI j from rfl) (by omega) (by decide) dX3_bid_139 ?_
                exact W.iret (v := (upd (F 5) j ((I1 0) + 5)) j) hx hb hr (fun t ht9 hW => ⟨⟨(upd (F 5) j ((I1 0) + 5)) j, (), rfl, (show ((upd (F 5) j ((I1 0) + 5)) j) = (mBidR I1 F j) from by simp [mBidR, upd, updA, c24, c53, c64, c75, t4, t11, t39]).trans (if_pos (show (cBid F j p0 p1 p2) = 0 by simp [cBid, c24, c53, c64, c75, t4, t11, t39])).symm, gBi ht9 (gfin hP (mfinT (by simp [cBid, c24, c53, c64, c75, t4, t11, t39]) (rfl) (by simp [mBidF, c24, c53, c64, c75, t4, t11, t39])))⟩, hS.F ht9⟩) hS.2.2 dX3_bid_140
            · exact absurd c64 (by decide)
          · skip
            refine lv_iconst (v := 3) hx hb dX3_bid_56 (by decide) ?_
            refine lv_goto (tgt := 61) hx hb dX3_bid_57 (by decide) ?_
            refine gciT (X := ([] : va_W)) (va_runV (As := [.int 3]) (rest := []) ⟨hx, hb, hml, hown, hts⟩ (kX3_fails l G T x1 A I1 F 3 _) (cwV 1 hts gX3_bid_X3_fails rfl rfl rfl (by decide +kernel) ⟨Nat.le_of_ble_eq_true rfl, Nat.le_of_ble_eq_true rfl⟩) ⟨gblind, va_recv hK hP (ci := 3) (q0 := 0) rfl rfl, gpreT (X := ([] : va_W)) hE hK hP hD hS hA⟩ rfl rfl hl.1 rfl (lv_room (Nat.le_of_ble_eq_true rfl)) dX3_bid_61 ⟨Nat.le_of_ble_eq_true rfl, Nat.le_of_ble_eq_true rfl⟩) hP hD hS hA cM_fst (fun r9 H locs hw hP hD hS => ?_)
            have hP : va_P G vwCl (cM T x1 A (upd I1 17 3) F) H := hP
            have hD : va_D (va_A (cM T x1 A I1 F) s.heap.size) (cM T x1 A (upd I1 17 3) F) := hD
            subst hw
            refine gtop (y := 1) (by decide) ?_
            refine lv_if_eq (tgt := 69) hx hb dX3_bid_64 (by decide) (fun c64 => ?_) (fun c64 => ?_)
            · exact absurd c64 (by decide)
            · skip
              refine lv_iconst (v := 0) hx hb dX3_bid_67 (by decide) ?_
              exact W.iret (v := 0) hx hb hr (fun t ht9 hW => ⟨⟨0, (), rfl, (if_neg (by simp [cBid, c24, c53, c64, t4, t11, t39])).symm, gBi ht9 (gfin hP (mfinF (by simp [cBid, c24, c53, c64, t4, t11, t39]) (congrArg (upd I1 17) (by simp [w3, cBid, c24, c53, c64, t4, t11, t39])) rfl))⟩, hS.F ht9⟩) hS.2.2 dX3_bid_68
        · skip
          have t39 : (okR p2 10 100000) = false := bI_f c39
          refine lv_iconst (v := 2) hx hb dX3_bid_42 (by decide) ?_
          refine lv_goto (tgt := 61) hx hb dX3_bid_43 (by decide) ?_
          refine gciT (X := ([] : va_W)) (va_runV (As := [.int 2]) (rest := []) ⟨hx, hb, hml, hown, hts⟩ (kX3_fails l G T x1 A I1 F 2 _) (cwV 1 hts gX3_bid_X3_fails rfl rfl rfl (by decide +kernel) ⟨Nat.le_of_ble_eq_true rfl, Nat.le_of_ble_eq_true rfl⟩) ⟨gblind, va_recv hK hP (ci := 3) (q0 := 0) rfl rfl, gpreT (X := ([] : va_W)) hE hK hP hD hS hA⟩ rfl rfl hl.1 rfl (lv_room (Nat.le_of_ble_eq_true rfl)) dX3_bid_61 ⟨Nat.le_of_ble_eq_true rfl, Nat.le_of_ble_eq_true rfl⟩) hP hD hS hA cM_fst (fun r9 H locs hw hP hD hS => ?_)
          have hP : va_P G vwCl (cM T x1 A (upd I1 17 2) F) H := hP
          have hD : va_D (va_A (cM T x1 A I1 F) s.heap.size) (cM T x1 A (upd I1 17 2) F) := hD
          subst hw
          refine gtop (y := 1) (by decide) ?_
          refine lv_if_eq (tgt := 69) hx hb dX3_bid_64 (by decide) (fun c64 => ?_) (fun c64 => ?_)
          · exact absurd c64 (by decide)
          · skip
            refine lv_iconst (v := 0) hx hb dX3_bid_67 (by decide) ?_
            exact W.iret (v := 0) hx hb hr (fun t ht9 hW => ⟨⟨0, (), rfl, (if_neg (by simp [cBid, c24, c64, t4, t11, t39])).symm, gBi ht9 (gfin hP (mfinF (by simp [cBid, c24, c64, t4, t11, t39]) (congrArg (upd I1 17) (by simp [w3, cBid, c24, c64, t4, t11, t39])) rfl))⟩, hS.F ht9⟩) hS.2.2 dX3_bid_68
      · exact absurd c24 (by decide)
abbrev PX3_bids (G : va_G) (T : Nat → ClassId) (x1 : Nat) (A : Nat → Nat) (I1 : Nat → Int32) (F : Nat → Nat → Int32) (j : Nat) (p0 : Int32) (sz : Nat) : Array Value → State → Prop := gPc G T [.ref x1, .int p0] (cM T x1 A I1 F) sz
abbrev QX3_bids (G : va_G) (T : Nat → ClassId) (x1 : Nat) (A : Nat → Nat) (I1 : Nat → Int32) (F : Nat → Nat → Int32) (j : Nat) (p0 : Int32) (sz : Nat) : Array Value → State → Outcome → State → Prop := va_Qi (fun (r : Int32) (_ : Unit) => r = if (kNam p0) = 0 then mCnt (F 11) j 6 else 0) (gB G (cM T x1 A (if (kNam p0) = 0 then (upd I1 17 0) else upd I1 17 (w3 (kNam p0))) (if (kNam p0) = 0 then F else F))) (va_A (cM T x1 A I1 F) sz)
set_option maxHeartbeats 4000000 in
set_option maxRecDepth 100000 in
theorem kX3_bids (l : Launch) (G : va_G) (T : Nat → ClassId) (x1 : Nat) (A : Nat → Nat) (I1 : Nat → Int32) (F : Nat → Nat → Int32) (j : Nat) (p0 : Int32) (sz : Nat) (hj : okI p0 16 = true → p0 = nI j ∧ j < 16) : Met l yX3_bids wsX3_bids ({ frames := 2, cells := 0, slots := 0, locals := 42 } : Room) (PX3_bids G T x1 A I1 F j p0 sz) (QX3_bids G T x1 A I1 F j p0 sz) 0 0 (va_A (cM T x1 A I1 F) sz) := by
  refine Met.ofW (cc := cX3_bids) (maxL := 4) (ret := (some .int)) (by decide) rfl ?_
  intro p e s m args below meth c s₁ B hml hv
  obtain ⟨rfl, hsz, hP, hK, hD0, hE⟩ := hv
  have hx := B.exec
  have hb := B.bytes
  have hr := B.returns
  have hts := atoms_spec (ws := wsX3_bids) B.pre
  have hown : s.vm.findClass RX3 = some m.cls := findClass_of_methodNamed B.named
  have hlocks := B.notSynchronized
  subst hsz
  have hD := hD0.self (sz := s.heap.size)
  have hA : ∀ q : Nat, s.heap.size ≤ q → (va_A (cM T x1 A I1 F) s.heap.size) q := fun q h => Or.inr h
  have hS : va_S (va_A (cM T x1 A I1 F) s.heap.size) s.heap s.heap [] := va_S.rf
  have hiRX3 : ∀ w ∈ u_ws RX3 TX3 18, w ∈ wsX3_bids := by decide +kernel
  have hl := lv_entry ([.ref x1, .int p0]) (n := 4) (Nat.le_of_ble_eq_true rfl)
  rw [lg_entry_eq]
  generalize (lg_sl ([.ref x1, .int p0]) ++ List.replicate (4 - (lg_sl ([.ref x1, .int p0])).length) Slot.unset).toArray = ls at hl ⊢
  have hl : lv_has ls 4 [(0, .ref x1), (1, .int p0)] := hl
  have hP : va_P G vwCl (cM T x1 A I1 F) s.heap := hP
  refine lv_aload_n hx hb dX3_bids_0 rfl (lv_at hl 0 rfl) ?_
  refine lv_iload_n hx hb dX3_bids_1 rfl (lv_at hl 1 rfl) ?_
  refine gci (va_runS (As := [.int p0]) (rest := [.ref x1]) ⟨hx, hb, hml, hown, hts⟩ (kX3_isName l G T p0 _) (va_cwS 1 hts gX3_bids_X3_isName rfl rfl rfl (by decide +kernel) ⟨Nat.le_of_ble_eq_true rfl, Nat.le_of_ble_eq_true rfl⟩) ⟨gblind, gpre hE hK hP hD hS hA [] rfl rfl⟩ rfl rfl hl.1 rfl (lv_room (Nat.le_of_ble_eq_true rfl)) dX3_bids_2 ⟨Nat.le_of_ble_eq_true rfl, Nat.le_of_ble_eq_true rfl⟩) hP hD hS hA [] rfl rfl (fun r9 H locs hw hP hD hS => ?_)
  have hP : va_P G vwCl (cM T x1 A I1 F) H := hP
  have hD : va_D (va_A (cM T x1 A I1 F) s.heap.size) (cM T x1 A I1 F) := hD
  subst hw
  refine lv_if_eq (tgt := 12) hx hb dX3_bids_5 (by decide) (fun c5 => ?_) (fun c5 => ?_)
  · skip
    have t5 : (okI p0 16) = false := bI_f c5
    refine lv_iconst (v := 1) hx hb dX3_bids_12 (by decide) ?_
    refine gciT (X := ([] : va_W)) (va_runV (As := [.int 1]) (rest := []) ⟨hx, hb, hml, hown, hts⟩ (kX3_fails l G T x1 A I1 F 1 _) (cwV 1 hts gX3_bids_X3_fails rfl rfl rfl (by decide +kernel) ⟨Nat.le_of_ble_eq_true rfl, Nat.le_of_ble_eq_true rfl⟩) ⟨gblind, va_recv hK hP (ci := 3) (q0 := 0) rfl rfl, gpreT (X := ([] : va_W)) hE hK hP hD hS hA⟩ rfl rfl hl.1 rfl (lv_room (Nat.le_of_ble_eq_true rfl)) dX3_bids_13 ⟨Nat.le_of_ble_eq_true rfl, Nat.le_of_ble_eq_true rfl⟩) hP hD hS hA cM_fst (fun r9 H locs hw hP hD hS => ?_)
    have hP : va_P G vwCl (cM T x1 A (upd I1 17 1) F) H := hP
    have hD : va_D (va_A (cM T x1 A I1 F) s.heap.size) (cM T x1 A (upd I1 17 1) F) := hD
    subst hw
    refine gtop (y := 1) (by decide) ?_
    refine lv_if_eq (tgt := 21) hx hb dX3_bids_16 (by decide) (fun c16 => ?_) (fun c16 => ?_)
    · exact absurd c16 (by decide)
    · skip
      refine lv_iconst (v := 0) hx hb dX3_bids_19 (by decide) ?_
      exact W.iret (v := 0) hx hb hr (fun t ht9 hW => ⟨⟨0, (), rfl, (if_neg (by simp [kNam, c16, t5])).symm, gBi ht9 (gfin hP (mfinF (by simp [kNam, c16, t5]) (congrArg (upd I1 17) (by simp [w3, kNam, c16, t5])) rfl))⟩, hS.F ht9⟩) hS.2.2 dX3_bids_20
  · skip
    have t5 : (okI p0 16) = true := bI_t c5
    have e0 := hj t5
    obtain ⟨e0a, e0b⟩ := e0
    rw [show Value.int p0 = Value.int (nI j) from congrArg Value.int e0a] at hl
    refine lv_iconst (v := 0) hx hb dX3_bids_8 (by decide) ?_
    refine lv_goto (tgt := 13) hx hb dX3_bids_9 (by decide) ?_
    refine gciT (X := ([] : va_W)) (va_runV (As := [.int 0]) (rest := []) ⟨hx, hb, hml, hown, hts⟩ (kX3_fails l G T x1 A I1 F 0 _) (cwV 1 hts gX3_bids_X3_fails rfl rfl rfl (by decide +kernel) ⟨Nat.le_of_ble_eq_true rfl, Nat.le_of_ble_eq_true rfl⟩) ⟨gblind, va_recv hK hP (ci := 3) (q0 := 0) rfl rfl, gpreT (X := ([] : va_W)) hE hK hP hD hS hA⟩ rfl rfl hl.1 rfl (lv_room (Nat.le_of_ble_eq_true rfl)) dX3_bids_13 ⟨Nat.le_of_ble_eq_true rfl, Nat.le_of_ble_eq_true rfl⟩) hP hD hS hA cM_fst (fun r9 H locs hw hP hD hS => ?_)
    have hP : va_P G vwCl (cM T x1 A (upd I1 17 0) F) H := hP
    have hD : va_D (va_A (cM T x1 A I1 F) s.heap.size) (cM T x1 A (upd I1 17 0) F) := hD
    subst hw
    refine gtop (y := 0) (by decide) ?_
    refine lv_if_eq (tgt := 21) hx hb dX3_bids_16 (by decide) (fun c16 => ?_) (fun c16 => ?_)
    · skip
      refine lv_iconst (v := 0) hx hb dX3_bids_21 (by decide) ?_
      refine lv_istore_n (lv' := [(2, .int 0), (0, .ref x1), (1, .int (nI j))]) hx hb dX3_bids_22 rfl hl (by decide) rfl (fun ls hl => ?_)
      refine lv_bipush (v := 6) hx hb dX3_bids_23 (by decide) ?_
      refine lv_iload_n hx hb dX3_bids_25 rfl (lv_at hl 2 rfl) ?_
      refine lv_imul hx hb dX3_bids_26 ?_
      refine gtop (y := nI (6 * j)) (pk_mul 6 j) ?_
      refine lv_istore_n (lv' := [(3, .int (nI (6 * j))), (2, .int 0), (0, .ref x1), (1, .int (nI j))]) hx hb dX3_bids_27 rfl hl (by decide) rfl (fun ls hl => ?_)
      have J28 : ∀ n9 : Nat, ∀ (i : Nat) (H : Heap) (locs : List Loc) (ls : Array Slot), (i ≤ 6) → (7 ≤ i + n9) → va_P G vwCl (cM T x1 A (upd I1 17 0) F) H → va_D (va_A (cM T x1 A I1 F) s.heap.size) (cM T x1 A (upd I1 17 0) F) → va_S (va_A (cM T x1 A I1 F) s.heap.size) s.heap H locs → lv_has ls 4 [(0, .ref x1), (1, .int (nI j)), (2, .int (mCnt (F 11) j i)), (3, .int (nI (6 * j + i)))] → W p l e (headSpec wsX3_bids ({ frames := 2, cells := 0, slots := 0, locals := 42 } : Room)).room s m ([.ref x1, .int p0] : List Value).toArray below meth c H locs 0 0 (MQ below (QX3_bids G T x1 A I1 F j p0 s.heap.size) ([.ref x1, .int p0] : List Value).toArray s 0 0 (va_A (cM T x1 A I1 F) s.heap.size)) (F0 m 28 ls []) := by
        intro n9
        induction n9 with
        | zero => intro i H locs ls hi hm hP hD hS hl; exact absurd (hm) (by omega)
        | succ n9 ih =>
          intro i H locs ls hi hm hP hD hS hl
          refine lv_iload_n hx hb dX3_bids_28 rfl (lv_at hl 3 rfl) ?_
          refine lv_bipush (v := 6) hx hb dX3_bids_29 (by decide) ?_
          refine lv_iload_n hx hb dX3_bids_31 rfl (lv_at hl 1 rfl) ?_
          refine lv_imul hx hb dX3_bids_32 ?_
          refine gtop (y := nI (6 * j)) (pk_mul 6 j) ?_
          refine lv_bipush (v := 6) hx hb dX3_bids_33 (by decide) ?_
          refine lv_iadd hx hb dX3_bids_35 ?_
          refine gtop (y := nI ((6 * j) + 6)) (nI_add (6 * j) 6) ?_
          refine lv_icmp_ge (tgt := 62) hx hb dX3_bids_36 (by decide) (fun c36 => ?_) (fun c36 => ?_)
          · skip
            have hge : i = 6 := by
              rcases Nat.lt_or_ge i 6 with q | q
              · exact absurd c36 (nI_ge (show 6 * j + i < 6 * j + 6 by omega) (by omega))
              · omega
            refine lv_iload_n hx hb dX3_bids_62 rfl (lv_at hl 2 rfl) ?_
            exact W.iret (v := mCnt (F 11) j i) hx hb hr (fun t ht9 hW => ⟨⟨mCnt (F 11) j i, (), rfl, by simp [kNam, t5, hge], gBi ht9 (gfin hP (mfinT (by simp [kNam, t5]) rfl rfl))⟩, hS.F ht9⟩) hS.2.2 dX3_bids_63
          · skip
            have hlt : i < 6 := by
              rcases Nat.lt_or_ge i 6 with q | q
              · exact q
              · exact absurd (nI_le (show 6 * j + 6 ≤ 6 * j + i by omega) (by omega)) c36
            refine lv_iload_n hx hb dX3_bids_39 rfl (lv_at hl 2 rfl) ?_
            refine lv_aload_n hx hb dX3_bids_40 rfl (lv_at hl 0 rfl) ?_
            refine va_get (D := G) (ci := 3) (v := .ref (A 11)) (C := RX3) (T := TX3) (N := 18) hx hb hts hiRX3 hown hK hP 0 rfl rfl 11 (by decide) (hts (.fieldLink RX3 37 "NameAuctionModel" "amount" "[I") (by decide +kernel)) (fun _ h9 => h9) rfl dX3_bids_41 ?_
            refine lv_iload_n hx hb dX3_bids_44 rfl (lv_at hl 3 rfl) ?_
            refine giald (j := (6 * j + i)) hx hb hK hP 10 0 rfl rfl (show (nI (6 * j + i) : Int32) = nI (6 * j + i) from rfl) (by omega) (by decide) dX3_bids_45 ?_
            refine lv_if_le (tgt := 53) hx hb dX3_bids_46 (by decide) (fun c46 => ?_) (fun c46 => ?_)
            · skip
              refine lv_iconst (v := 0) hx hb dX3_bids_53 (by decide) ?_
              refine lv_iadd hx hb dX3_bids_54 ?_
              refine gtop (y := mCnt (F 11) j (i + 1)) (by simp [mCnt, c16, c36, c46, t5]) ?_
              refine lv_istore_n (lv' := [(2, .int (mCnt (F 11) j (i + 1))), (0, .ref x1), (1, .int (nI j)), (3, .int (nI (6 * j + i)))]) hx hb dX3_bids_55 rfl hl (by decide) rfl (fun ls hl => ?_)
              refine lv_iinc (v := nI ((6 * j + i) + 1)) (lv' := [(3, .int (nI ((6 * j + i) + 1))), (2, .int (mCnt (F 11) j (i + 1))), (0, .ref x1), (1, .int (nI j))]) hx hb dX3_bids_56 hl (k := 3) rfl (by first | rfl | exact (nI_add (6 * j + i) 1)) (by decide) rfl (fun ls hl => ?_)
              refine lv_goto (tgt := 28) hx hb dX3_bids_59 (by decide) ?_
              exact ih (i + 1) _ _ _ (by omega) (by omega) hP hD hS (lv_sub hl [2, 3, 1, 0] rfl)
            · skip
              refine lv_iconst (v := 1) hx hb dX3_bids_49 (by decide) ?_
              refine lv_goto (tgt := 54) hx hb dX3_bids_50 (by decide) ?_
              refine lv_iadd hx hb dX3_bids_54 ?_
              refine gtop (y := mCnt (F 11) j (i + 1)) (by simp [mCnt, c16, c36, c46, t5]) ?_
              refine lv_istore_n (lv' := [(2, .int (mCnt (F 11) j (i + 1))), (0, .ref x1), (1, .int (nI j)), (3, .int (nI (6 * j + i)))]) hx hb dX3_bids_55 rfl hl (by decide) rfl (fun ls hl => ?_)
              refine lv_iinc (v := nI ((6 * j + i) + 1)) (lv' := [(3, .int (nI ((6 * j + i) + 1))), (2, .int (mCnt (F 11) j (i + 1))), (0, .ref x1), (1, .int (nI j))]) hx hb dX3_bids_56 hl (k := 3) rfl (by first | rfl | exact (nI_add (6 * j + i) 1)) (by decide) rfl (fun ls hl => ?_)
              refine lv_goto (tgt := 28) hx hb dX3_bids_59 (by decide) ?_
              exact ih (i + 1) _ _ _ (by omega) (by omega) hP hD hS (lv_sub hl [2, 3, 1, 0] rfl)
      exact J28 7 0 _ _ _ (by omega) (by omega) hP hD hS (lv_sub hl [2, 3, 1, 0] rfl)
    · exact absurd c16 (by decide)
abbrev PX3_state (G : va_G) (T : Nat → ClassId) (x1 : Nat) (A : Nat → Nat) (I1 : Nat → Int32) (F : Nat → Nat → Int32) (j : Nat) (p0 : Int32) (sz : Nat) : Array Value → State → Prop := gPc G T [.ref x1, .int p0] (cM T x1 A I1 F) sz
abbrev QX3_state (G : va_G) (T : Nat → ClassId) (x1 : Nat) (A : Nat → Nat) (I1 : Nat → Int32) (F : Nat → Nat → Int32) (j : Nat) (p0 : Int32) (sz : Nat) : Array Value → State → Outcome → State → Prop := va_Qi (fun (r : Int32) (_ : Unit) => r = if (kNam p0) = 0 then F 3 j else 0) (gB G (cM T x1 A (if (kNam p0) = 0 then (upd I1 17 0) else upd I1 17 (w3 (kNam p0))) (if (kNam p0) = 0 then F else F))) (va_A (cM T x1 A I1 F) sz)
set_option maxHeartbeats 4000000 in
set_option maxRecDepth 100000 in
theorem kX3_state (l : Launch) (G : va_G) (T : Nat → ClassId) (x1 : Nat) (A : Nat → Nat) (I1 : Nat → Int32) (F : Nat → Nat → Int32) (j : Nat) (p0 : Int32) (sz : Nat) (hj : okI p0 16 = true → p0 = nI j ∧ j < 16) : Met l yX3_state wsX3_state ({ frames := 2, cells := 0, slots := 0, locals := 42 } : Room) (PX3_state G T x1 A I1 F j p0 sz) (QX3_state G T x1 A I1 F j p0 sz) 0 0 (va_A (cM T x1 A I1 F) sz) := by
  refine Met.ofW (cc := cX3_state) (maxL := 2) (ret := (some .int)) (by decide) rfl ?_
  intro p e s m args below meth c s₁ B hml hv
  obtain ⟨rfl, hsz, hP, hK, hD0, hE⟩ := hv
  have hx := B.exec
  have hb := B.bytes
  have hr := B.returns
  have hts := atoms_spec (ws := wsX3_state) B.pre
  have hown : s.vm.findClass RX3 = some m.cls := findClass_of_methodNamed B.named
  have hlocks := B.notSynchronized
  subst hsz
  have hD := hD0.self (sz := s.heap.size)
  have hA : ∀ q : Nat, s.heap.size ≤ q → (va_A (cM T x1 A I1 F) s.heap.size) q := fun q h => Or.inr h
  have hS : va_S (va_A (cM T x1 A I1 F) s.heap.size) s.heap s.heap [] := va_S.rf
  have hiRX3 : ∀ w ∈ u_ws RX3 TX3 18, w ∈ wsX3_state := by decide +kernel
  have hl := lv_entry ([.ref x1, .int p0]) (n := 2) (Nat.le_of_ble_eq_true rfl)
  rw [lg_entry_eq]
  generalize (lg_sl ([.ref x1, .int p0]) ++ List.replicate (2 - (lg_sl ([.ref x1, .int p0])).length) Slot.unset).toArray = ls at hl ⊢
  have hl : lv_has ls 2 [(0, .ref x1), (1, .int p0)] := hl
  have hP : va_P G vwCl (cM T x1 A I1 F) s.heap := hP
  refine lv_aload_n hx hb dX3_state_0 rfl (lv_at hl 0 rfl) ?_
  refine lv_iload_n hx hb dX3_state_1 rfl (lv_at hl 1 rfl) ?_
  refine gci (va_runS (As := [.int p0]) (rest := [.ref x1]) ⟨hx, hb, hml, hown, hts⟩ (kX3_isName l G T p0 _) (va_cwS 1 hts gX3_state_X3_isName rfl rfl rfl (by decide +kernel) ⟨Nat.le_of_ble_eq_true rfl, Nat.le_of_ble_eq_true rfl⟩) ⟨gblind, gpre hE hK hP hD hS hA [] rfl rfl⟩ rfl rfl hl.1 rfl (lv_room (Nat.le_of_ble_eq_true rfl)) dX3_state_2 ⟨Nat.le_of_ble_eq_true rfl, Nat.le_of_ble_eq_true rfl⟩) hP hD hS hA [] rfl rfl (fun r9 H locs hw hP hD hS => ?_)
  have hP : va_P G vwCl (cM T x1 A I1 F) H := hP
  have hD : va_D (va_A (cM T x1 A I1 F) s.heap.size) (cM T x1 A I1 F) := hD
  subst hw
  refine lv_if_eq (tgt := 12) hx hb dX3_state_5 (by decide) (fun c5 => ?_) (fun c5 => ?_)
  · skip
    have t5 : (okI p0 16) = false := bI_f c5
    refine lv_iconst (v := 1) hx hb dX3_state_12 (by decide) ?_
    refine gciT (X := ([] : va_W)) (va_runV (As := [.int 1]) (rest := []) ⟨hx, hb, hml, hown, hts⟩ (kX3_fails l G T x1 A I1 F 1 _) (cwV 1 hts gX3_state_X3_fails rfl rfl rfl (by decide +kernel) ⟨Nat.le_of_ble_eq_true rfl, Nat.le_of_ble_eq_true rfl⟩) ⟨gblind, va_recv hK hP (ci := 3) (q0 := 0) rfl rfl, gpreT (X := ([] : va_W)) hE hK hP hD hS hA⟩ rfl rfl hl.1 rfl (lv_room (Nat.le_of_ble_eq_true rfl)) dX3_state_13 ⟨Nat.le_of_ble_eq_true rfl, Nat.le_of_ble_eq_true rfl⟩) hP hD hS hA cM_fst (fun r9 H locs hw hP hD hS => ?_)
    have hP : va_P G vwCl (cM T x1 A (upd I1 17 1) F) H := hP
    have hD : va_D (va_A (cM T x1 A I1 F) s.heap.size) (cM T x1 A (upd I1 17 1) F) := hD
    subst hw
    refine gtop (y := 1) (by decide) ?_
    refine lv_if_eq (tgt := 23) hx hb dX3_state_16 (by decide) (fun c16 => ?_) (fun c16 => ?_)
    · exact absurd c16 (by decide)
    · skip
      refine lv_iconst (v := 0) hx hb dX3_state_19 (by decide) ?_
      refine lv_goto (tgt := 29) hx hb dX3_state_20 (by decide) ?_
      exact W.iret (v := 0) hx hb hr (fun t ht9 hW => ⟨⟨0, (), rfl, (if_neg (by simp [kNam, c16, t5])).symm, gBi ht9 (gfin hP (mfinF (by simp [kNam, c16, t5]) (congrArg (upd I1 17) (by simp [w3, kNam, c16, t5])) rfl))⟩, hS.F ht9⟩) hS.2.2 dX3_state_29
  · skip
    have t5 : (okI p0 16) = true := bI_t c5
    have e0 := hj t5
    obtain ⟨e0a, e0b⟩ := e0
    rw [show Value.int p0 = Value.int (nI j) from congrArg Value.int e0a] at hl
    refine lv_iconst (v := 0) hx hb dX3_state_8 (by decide) ?_
    refine lv_goto (tgt := 13) hx hb dX3_state_9 (by decide) ?_
    refine gciT (X := ([] : va_W)) (va_runV (As := [.int 0]) (rest := []) ⟨hx, hb, hml, hown, hts⟩ (kX3_fails l G T x1 A I1 F 0 _) (cwV 1 hts gX3_state_X3_fails rfl rfl rfl (by decide +kernel) ⟨Nat.le_of_ble_eq_true rfl, Nat.le_of_ble_eq_true rfl⟩) ⟨gblind, va_recv hK hP (ci := 3) (q0 := 0) rfl rfl, gpreT (X := ([] : va_W)) hE hK hP hD hS hA⟩ rfl rfl hl.1 rfl (lv_room (Nat.le_of_ble_eq_true rfl)) dX3_state_13 ⟨Nat.le_of_ble_eq_true rfl, Nat.le_of_ble_eq_true rfl⟩) hP hD hS hA cM_fst (fun r9 H locs hw hP hD hS => ?_)
    have hP : va_P G vwCl (cM T x1 A (upd I1 17 0) F) H := hP
    have hD : va_D (va_A (cM T x1 A I1 F) s.heap.size) (cM T x1 A (upd I1 17 0) F) := hD
    subst hw
    refine gtop (y := 0) (by decide) ?_
    refine lv_if_eq (tgt := 23) hx hb dX3_state_16 (by decide) (fun c16 => ?_) (fun c16 => ?_)
    · skip
      refine lv_aload_n hx hb dX3_state_23 rfl (lv_at hl 0 rfl) ?_
      refine va_get (D := G) (ci := 3) (v := .ref (A 3)) (C := RX3) (T := TX3) (N := 18) hx hb hts hiRX3 hown hK hP 0 rfl rfl 3 (by decide) (hts (.fieldLink RX3 13 "NameAuctionModel" "state" "[I") (by decide +kernel)) (fun _ h9 => h9) rfl dX3_state_24 ?_
      refine lv_iload_n hx hb dX3_state_27 rfl (lv_at hl 1 rfl) ?_
      refine giald (j := j) hx hb hK hP 2 0 rfl rfl (show (nI j : Int32) = nI j from rfl) (by omega) (by decide) dX3_state_28 ?_
      exact W.iret (v := (F 3) j) hx hb hr (fun t ht9 hW => ⟨⟨(F 3) j, (), rfl, (if_pos (show (kNam p0) = 0 by simp [kNam, c16, t5])).symm, gBi ht9 (gfin hP (mfinT (by simp [kNam, c16, t5]) (rfl) (rfl)))⟩, hS.F ht9⟩) hS.2.2 dX3_state_29
    · exact absurd c16 (by decide)
abbrev PX3_owner (G : va_G) (T : Nat → ClassId) (x1 : Nat) (A : Nat → Nat) (I1 : Nat → Int32) (F : Nat → Nat → Int32) (j : Nat) (p0 : Int32) (sz : Nat) : Array Value → State → Prop := gPc G T [.ref x1, .int p0] (cM T x1 A I1 F) sz
abbrev QX3_owner (G : va_G) (T : Nat → ClassId) (x1 : Nat) (A : Nat → Nat) (I1 : Nat → Int32) (F : Nat → Nat → Int32) (j : Nat) (p0 : Int32) (sz : Nat) : Array Value → State → Outcome → State → Prop := va_Qi (fun (r : Int32) (_ : Unit) => r = if (kNam p0) = 0 then F 4 j else 0) (gB G (cM T x1 A (if (kNam p0) = 0 then (upd I1 17 0) else upd I1 17 (w3 (kNam p0))) (if (kNam p0) = 0 then F else F))) (va_A (cM T x1 A I1 F) sz)
set_option maxHeartbeats 4000000 in
set_option maxRecDepth 100000 in
theorem kX3_owner (l : Launch) (G : va_G) (T : Nat → ClassId) (x1 : Nat) (A : Nat → Nat) (I1 : Nat → Int32) (F : Nat → Nat → Int32) (j : Nat) (p0 : Int32) (sz : Nat) (hj : okI p0 16 = true → p0 = nI j ∧ j < 16) : Met l yX3_owner wsX3_owner ({ frames := 2, cells := 0, slots := 0, locals := 42 } : Room) (PX3_owner G T x1 A I1 F j p0 sz) (QX3_owner G T x1 A I1 F j p0 sz) 0 0 (va_A (cM T x1 A I1 F) sz) := by
  refine Met.ofW (cc := cX3_owner) (maxL := 2) (ret := (some .int)) (by decide) rfl ?_
  intro p e s m args below meth c s₁ B hml hv
  obtain ⟨rfl, hsz, hP, hK, hD0, hE⟩ := hv
  have hx := B.exec
  have hb := B.bytes
  have hr := B.returns
  have hts := atoms_spec (ws := wsX3_owner) B.pre
  have hown : s.vm.findClass RX3 = some m.cls := findClass_of_methodNamed B.named
  have hlocks := B.notSynchronized
  subst hsz
  have hD := hD0.self (sz := s.heap.size)
  have hA : ∀ q : Nat, s.heap.size ≤ q → (va_A (cM T x1 A I1 F) s.heap.size) q := fun q h => Or.inr h
  have hS : va_S (va_A (cM T x1 A I1 F) s.heap.size) s.heap s.heap [] := va_S.rf
  have hiRX3 : ∀ w ∈ u_ws RX3 TX3 18, w ∈ wsX3_owner := by decide +kernel
  have hl := lv_entry ([.ref x1, .int p0]) (n := 2) (Nat.le_of_ble_eq_true rfl)
  rw [lg_entry_eq]
  generalize (lg_sl ([.ref x1, .int p0]) ++ List.replicate (2 - (lg_sl ([.ref x1, .int p0])).length) Slot.unset).toArray = ls at hl ⊢
  have hl : lv_has ls 2 [(0, .ref x1), (1, .int p0)] := hl
  have hP : va_P G vwCl (cM T x1 A I1 F) s.heap := hP
  refine lv_aload_n hx hb dX3_owner_0 rfl (lv_at hl 0 rfl) ?_
  refine lv_iload_n hx hb dX3_owner_1 rfl (lv_at hl 1 rfl) ?_
  refine gci (va_runS (As := [.int p0]) (rest := [.ref x1]) ⟨hx, hb, hml, hown, hts⟩ (kX3_isName l G T p0 _) (va_cwS 1 hts gX3_owner_X3_isName rfl rfl rfl (by decide +kernel) ⟨Nat.le_of_ble_eq_true rfl, Nat.le_of_ble_eq_true rfl⟩) ⟨gblind, gpre hE hK hP hD hS hA [] rfl rfl⟩ rfl rfl hl.1 rfl (lv_room (Nat.le_of_ble_eq_true rfl)) dX3_owner_2 ⟨Nat.le_of_ble_eq_true rfl, Nat.le_of_ble_eq_true rfl⟩) hP hD hS hA [] rfl rfl (fun r9 H locs hw hP hD hS => ?_)
  have hP : va_P G vwCl (cM T x1 A I1 F) H := hP
  have hD : va_D (va_A (cM T x1 A I1 F) s.heap.size) (cM T x1 A I1 F) := hD
  subst hw
  refine lv_if_eq (tgt := 12) hx hb dX3_owner_5 (by decide) (fun c5 => ?_) (fun c5 => ?_)
  · skip
    have t5 : (okI p0 16) = false := bI_f c5
    refine lv_iconst (v := 1) hx hb dX3_owner_12 (by decide) ?_
    refine gciT (X := ([] : va_W)) (va_runV (As := [.int 1]) (rest := []) ⟨hx, hb, hml, hown, hts⟩ (kX3_fails l G T x1 A I1 F 1 _) (cwV 1 hts gX3_owner_X3_fails rfl rfl rfl (by decide +kernel) ⟨Nat.le_of_ble_eq_true rfl, Nat.le_of_ble_eq_true rfl⟩) ⟨gblind, va_recv hK hP (ci := 3) (q0 := 0) rfl rfl, gpreT (X := ([] : va_W)) hE hK hP hD hS hA⟩ rfl rfl hl.1 rfl (lv_room (Nat.le_of_ble_eq_true rfl)) dX3_owner_13 ⟨Nat.le_of_ble_eq_true rfl, Nat.le_of_ble_eq_true rfl⟩) hP hD hS hA cM_fst (fun r9 H locs hw hP hD hS => ?_)
    have hP : va_P G vwCl (cM T x1 A (upd I1 17 1) F) H := hP
    have hD : va_D (va_A (cM T x1 A I1 F) s.heap.size) (cM T x1 A (upd I1 17 1) F) := hD
    subst hw
    refine gtop (y := 1) (by decide) ?_
    refine lv_if_eq (tgt := 23) hx hb dX3_owner_16 (by decide) (fun c16 => ?_) (fun c16 => ?_)
    · exact absurd c16 (by decide)
    · skip
      refine lv_iconst (v := 0) hx hb dX3_owner_19 (by decide) ?_
      refine lv_goto (tgt := 29) hx hb dX3_owner_20 (by decide) ?_
      exact W.iret (v := 0) hx hb hr (fun t ht9 hW => ⟨⟨0, (), rfl, (if_neg (by simp [kNam, c16, t5])).symm, gBi ht9 (gfin hP (mfinF (by simp [kNam, c16, t5]) (congrArg (upd I1 17) (by simp [w3, kNam, c16, t5])) rfl))⟩, hS.F ht9⟩) hS.2.2 dX3_owner_29
  · skip
    have t5 : (okI p0 16) = true := bI_t c5
    have e0 := hj t5
    obtain ⟨e0a, e0b⟩ := e0
    rw [show Value.int p0 = Value.int (nI j) from congrArg Value.int e0a] at hl
    refine lv_iconst (v := 0) hx hb dX3_owner_8 (by decide) ?_
    refine lv_goto (tgt := 13) hx hb dX3_owner_9 (by decide) ?_
    refine gciT (X := ([] : va_W)) (va_runV (As := [.int 0]) (rest := []) ⟨hx, hb, hml, hown, hts⟩ (kX3_fails l G T x1 A I1 F 0 _) (cwV 1 hts gX3_owner_X3_fails rfl rfl rfl (by decide +kernel) ⟨Nat.le_of_ble_eq_true rfl, Nat.le_of_ble_eq_true rfl⟩) ⟨gblind, va_recv hK hP (ci := 3) (q0 := 0) rfl rfl, gpreT (X := ([] : va_W)) hE hK hP hD hS hA⟩ rfl rfl hl.1 rfl (lv_room (Nat.le_of_ble_eq_true rfl)) dX3_owner_13 ⟨Nat.le_of_ble_eq_true rfl, Nat.le_of_ble_eq_true rfl⟩) hP hD hS hA cM_fst (fun r9 H locs hw hP hD hS => ?_)
    have hP : va_P G vwCl (cM T x1 A (upd I1 17 0) F) H := hP
    have hD : va_D (va_A (cM T x1 A I1 F) s.heap.size) (cM T x1 A (upd I1 17 0) F) := hD
    subst hw
    refine gtop (y := 0) (by decide) ?_
    refine lv_if_eq (tgt := 23) hx hb dX3_owner_16 (by decide) (fun c16 => ?_) (fun c16 => ?_)
    · skip
      refine lv_aload_n hx hb dX3_owner_23 rfl (lv_at hl 0 rfl) ?_
      refine va_get (D := G) (ci := 3) (v := .ref (A 4)) (C := RX3) (T := TX3) (N := 18) hx hb hts hiRX3 hown hK hP 0 rfl rfl 4 (by decide) (hts (.fieldLink RX3 16 "NameAuctionModel" "owner" "[I") (by decide +kernel)) (fun _ h9 => h9) rfl dX3_owner_24 ?_
      refine lv_iload_n hx hb dX3_owner_27 rfl (lv_at hl 1 rfl) ?_
      refine giald (j := j) hx hb hK hP 3 0 rfl rfl (show (nI j : Int32) = nI j from rfl) (by omega) (by decide) dX3_owner_28 ?_
      exact W.iret (v := (F 4) j) hx hb hr (fun t ht9 hW => ⟨⟨(F 4) j, (), rfl, (if_pos (show (kNam p0) = 0 by simp [kNam, c16, t5])).symm, gBi ht9 (gfin hP (mfinT (by simp [kNam, c16, t5]) (rfl) (rfl)))⟩, hS.F ht9⟩) hS.2.2 dX3_owner_29
    · exact absurd c16 (by decide)
abbrev PX3_next (G : va_G) (T : Nat → ClassId) (x1 : Nat) (A : Nat → Nat) (I1 : Nat → Int32) (F : Nat → Nat → Int32) (j : Nat) (p0 : Int32) (sz : Nat) : Array Value → State → Prop := gPc G T [.ref x1, .int p0] (cM T x1 A I1 F) sz
abbrev QX3_next (G : va_G) (T : Nat → ClassId) (x1 : Nat) (A : Nat → Nat) (I1 : Nat → Int32) (F : Nat → Nat → Int32) (j : Nat) (p0 : Int32) (sz : Nat) : Array Value → State → Outcome → State → Prop := va_Qi (fun (r : Int32) (_ : Unit) => r = if (kNam p0) = 0 then mNext F j else 0) (gB G (cM T x1 A (if (kNam p0) = 0 then (upd I1 17 0) else upd I1 17 (w3 (kNam p0))) (if (kNam p0) = 0 then F else F))) (va_A (cM T x1 A I1 F) sz)
set_option maxHeartbeats 4000000 in
set_option maxRecDepth 100000 in
theorem kX3_next (l : Launch) (G : va_G) (T : Nat → ClassId) (x1 : Nat) (A : Nat → Nat) (I1 : Nat → Int32) (F : Nat → Nat → Int32) (j : Nat) (p0 : Int32) (sz : Nat) (hj : okI p0 16 = true → p0 = nI j ∧ j < 16) : Met l yX3_next wsX3_next ({ frames := 2, cells := 0, slots := 0, locals := 42 } : Room) (PX3_next G T x1 A I1 F j p0 sz) (QX3_next G T x1 A I1 F j p0 sz) 0 0 (va_A (cM T x1 A I1 F) sz) := by
  refine Met.ofW (cc := cX3_next) (maxL := 2) (ret := (some .int)) (by decide) rfl ?_
  intro p e s m args below meth c s₁ B hml hv
  obtain ⟨rfl, hsz, hP, hK, hD0, hE⟩ := hv
  have hx := B.exec
  have hb := B.bytes
  have hr := B.returns
  have hts := atoms_spec (ws := wsX3_next) B.pre
  have hown : s.vm.findClass RX3 = some m.cls := findClass_of_methodNamed B.named
  have hlocks := B.notSynchronized
  subst hsz
  have hD := hD0.self (sz := s.heap.size)
  have hA : ∀ q : Nat, s.heap.size ≤ q → (va_A (cM T x1 A I1 F) s.heap.size) q := fun q h => Or.inr h
  have hS : va_S (va_A (cM T x1 A I1 F) s.heap.size) s.heap s.heap [] := va_S.rf
  have hl := lv_entry ([.ref x1, .int p0]) (n := 2) (Nat.le_of_ble_eq_true rfl)
  rw [lg_entry_eq]
  generalize (lg_sl ([.ref x1, .int p0]) ++ List.replicate (2 - (lg_sl ([.ref x1, .int p0])).length) Slot.unset).toArray = ls at hl ⊢
  have hl : lv_has ls 2 [(0, .ref x1), (1, .int p0)] := hl
  have hP : va_P G vwCl (cM T x1 A I1 F) s.heap := hP
  refine lv_aload_n hx hb dX3_next_0 rfl (lv_at hl 0 rfl) ?_
  refine lv_iload_n hx hb dX3_next_1 rfl (lv_at hl 1 rfl) ?_
  refine gci (va_runS (As := [.int p0]) (rest := [.ref x1]) ⟨hx, hb, hml, hown, hts⟩ (kX3_isName l G T p0 _) (va_cwS 1 hts gX3_next_X3_isName rfl rfl rfl (by decide +kernel) ⟨Nat.le_of_ble_eq_true rfl, Nat.le_of_ble_eq_true rfl⟩) ⟨gblind, gpre hE hK hP hD hS hA [] rfl rfl⟩ rfl rfl hl.1 rfl (lv_room (Nat.le_of_ble_eq_true rfl)) dX3_next_2 ⟨Nat.le_of_ble_eq_true rfl, Nat.le_of_ble_eq_true rfl⟩) hP hD hS hA [] rfl rfl (fun r9 H locs hw hP hD hS => ?_)
  have hP : va_P G vwCl (cM T x1 A I1 F) H := hP
  have hD : va_D (va_A (cM T x1 A I1 F) s.heap.size) (cM T x1 A I1 F) := hD
  subst hw
  refine lv_if_eq (tgt := 12) hx hb dX3_next_5 (by decide) (fun c5 => ?_) (fun c5 => ?_)
  · skip
    have t5 : (okI p0 16) = false := bI_f c5
    refine lv_iconst (v := 1) hx hb dX3_next_12 (by decide) ?_
    refine gciT (X := ([] : va_W)) (va_runV (As := [.int 1]) (rest := []) ⟨hx, hb, hml, hown, hts⟩ (kX3_fails l G T x1 A I1 F 1 _) (cwV 1 hts gX3_next_X3_fails rfl rfl rfl (by decide +kernel) ⟨Nat.le_of_ble_eq_true rfl, Nat.le_of_ble_eq_true rfl⟩) ⟨gblind, va_recv hK hP (ci := 3) (q0 := 0) rfl rfl, gpreT (X := ([] : va_W)) hE hK hP hD hS hA⟩ rfl rfl hl.1 rfl (lv_room (Nat.le_of_ble_eq_true rfl)) dX3_next_13 ⟨Nat.le_of_ble_eq_true rfl, Nat.le_of_ble_eq_true rfl⟩) hP hD hS hA cM_fst (fun r9 H locs hw hP hD hS => ?_)
    have hP : va_P G vwCl (cM T x1 A (upd I1 17 1) F) H := hP
    have hD : va_D (va_A (cM T x1 A I1 F) s.heap.size) (cM T x1 A (upd I1 17 1) F) := hD
    subst hw
    refine gtop (y := 1) (by decide) ?_
    refine lv_if_eq (tgt := 23) hx hb dX3_next_16 (by decide) (fun c16 => ?_) (fun c16 => ?_)
    · exact absurd c16 (by decide)
    · skip
      refine lv_iconst (v := 0) hx hb dX3_next_19 (by decide) ?_
      refine lv_goto (tgt := 28) hx hb dX3_next_20 (by decide) ?_
      exact W.iret (v := 0) hx hb hr (fun t ht9 hW => ⟨⟨0, (), rfl, (if_neg (by simp [kNam, c16, t5])).symm, gBi ht9 (gfin hP (mfinF (by simp [kNam, c16, t5]) (congrArg (upd I1 17) (by simp [w3, kNam, c16, t5])) rfl))⟩, hS.F ht9⟩) hS.2.2 dX3_next_28
  · skip
    have t5 : (okI p0 16) = true := bI_t c5
    have e0 := hj t5
    obtain ⟨e0a, e0b⟩ := e0
    rw [show Value.int p0 = Value.int (nI j) from congrArg Value.int e0a] at hl
    refine lv_iconst (v := 0) hx hb dX3_next_8 (by decide) ?_
    refine lv_goto (tgt := 13) hx hb dX3_next_9 (by decide) ?_
    refine gciT (X := ([] : va_W)) (va_runV (As := [.int 0]) (rest := []) ⟨hx, hb, hml, hown, hts⟩ (kX3_fails l G T x1 A I1 F 0 _) (cwV 1 hts gX3_next_X3_fails rfl rfl rfl (by decide +kernel) ⟨Nat.le_of_ble_eq_true rfl, Nat.le_of_ble_eq_true rfl⟩) ⟨gblind, va_recv hK hP (ci := 3) (q0 := 0) rfl rfl, gpreT (X := ([] : va_W)) hE hK hP hD hS hA⟩ rfl rfl hl.1 rfl (lv_room (Nat.le_of_ble_eq_true rfl)) dX3_next_13 ⟨Nat.le_of_ble_eq_true rfl, Nat.le_of_ble_eq_true rfl⟩) hP hD hS hA cM_fst (fun r9 H locs hw hP hD hS => ?_)
    have hP : va_P G vwCl (cM T x1 A (upd I1 17 0) F) H := hP
    have hD : va_D (va_A (cM T x1 A I1 F) s.heap.size) (cM T x1 A (upd I1 17 0) F) := hD
    subst hw
    refine gtop (y := 0) (by decide) ?_
    refine lv_if_eq (tgt := 23) hx hb dX3_next_16 (by decide) (fun c16 => ?_) (fun c16 => ?_)
    · skip
      refine lv_aload_n hx hb dX3_next_23 rfl (lv_at hl 0 rfl) ?_
      refine lv_iload_n hx hb dX3_next_24 rfl (lv_at hl 1 rfl) ?_
      refine gciT (X := ([] : va_W)) (va_runV (As := [.int (nI j)]) (rest := []) ⟨hx, hb, hml, hown, hts⟩ (kX3_nextOf l G T x1 A (upd I1 17 0) F j _ e0b) (cwV 1 hts gX3_next_X3_nextOf rfl rfl rfl (by decide +kernel) ⟨Nat.le_of_ble_eq_true rfl, Nat.le_of_ble_eq_true rfl⟩) ⟨gblind, va_recv hK hP (ci := 3) (q0 := 0) rfl rfl, gpreT (X := ([] : va_W)) hE hK hP hD hS hA⟩ rfl rfl hl.1 rfl (lv_room (Nat.le_of_ble_eq_true rfl)) dX3_next_25 ⟨Nat.le_of_ble_eq_true rfl, Nat.le_of_ble_eq_true rfl⟩) hP hD hS hA cM_fst (fun r9 H locs hw hP hD hS => ?_)
      have hP : va_P G vwCl (cM T x1 A (upd I1 17 0) F) H := hP
      have hD : va_D (va_A (cM T x1 A I1 F) s.heap.size) (cM T x1 A (upd I1 17 0) F) := hD
      subst hw
      exact W.iret (v := mNext F j) hx hb hr (fun t ht9 hW => ⟨⟨mNext F j, (), rfl, (if_pos (show (kNam p0) = 0 by simp [kNam, c16, t5])).symm, gBi ht9 (gfin hP (mfinT (by simp [kNam, c16, t5]) (rfl) (rfl)))⟩, hS.F ht9⟩) hS.2.2 dX3_next_28
    · exact absurd c16 (by decide)
abbrev PX3_renew (G : va_G) (T : Nat → ClassId) (x1 : Nat) (A : Nat → Nat) (I1 : Nat → Int32) (F : Nat → Nat → Int32) (j o : Nat) (p0 p1 : Int32) (sz : Nat) : Array Value → State → Prop := gPc G T [.ref x1, .int p0, .int p1] (cM T x1 A I1 F) sz
abbrev QX3_renew (G : va_G) (T : Nat → ClassId) (x1 : Nat) (A : Nat → Nat) (I1 : Nat → Int32) (F : Nat → Nat → Int32) (j o : Nat) (p0 p1 : Int32) (sz : Nat) : Array Value → State → Outcome → State → Prop := va_Qi (fun (r : Int32) (_ : Unit) => r = if (cRenew I1 F j o p0 p1) = 0 then F 5 j + 100 * p1 else 0) (gB G (cM T x1 A (if (cRenew I1 F j o p0 p1) = 0 then (upd (upd I1 17 0) 1 (I1 1 + 20 * p1)) else upd I1 17 (w3 (cRenew I1 F j o p0 p1))) (if (cRenew I1 F j o p0 p1) = 0 then (updA (updA (mPayF F o (20 * p1)) 5 (upd (F 5) j (F 5 j + 100 * p1))) 3 (upd (F 3) j 2)) else F))) (va_A (cM T x1 A I1 F) sz)
set_option maxHeartbeats 4000000 in
set_option maxRecDepth 100000 in
theorem kX3_renew (l : Launch) (G : va_G) (T : Nat → ClassId) (x1 : Nat) (A : Nat → Nat) (I1 : Nat → Int32) (F : Nat → Nat → Int32) (j o : Nat) (p0 p1 : Int32) (sz : Nat) (hj : okI p0 16 = true → p0 = nI j ∧ j < 16) (ho : okR (F 3 j) 2 3 = true → F 4 j = nI o ∧ o < 6) : Met l yX3_renew wsX3_renew ({ frames := 2, cells := 0, slots := 0, locals := 42 } : Room) (PX3_renew G T x1 A I1 F j o p0 p1 sz) (QX3_renew G T x1 A I1 F j o p0 p1 sz) 0 0 (va_A (cM T x1 A I1 F) sz) := by
  refine Met.ofW (cc := cX3_renew) (maxL := 6) (ret := (some .int)) (by decide) rfl ?_
  intro p e s m args below meth c s₁ B hml hv
  obtain ⟨rfl, hsz, hP, hK, hD0, hE⟩ := hv
  have hx := B.exec
  have hb := B.bytes
  have hr := B.returns
  have hts := atoms_spec (ws := wsX3_renew) B.pre
  have hown : s.vm.findClass RX3 = some m.cls := findClass_of_methodNamed B.named
  have hlocks := B.notSynchronized
  subst hsz
  have hD := hD0.self (sz := s.heap.size)
  have hA : ∀ q : Nat, s.heap.size ≤ q → (va_A (cM T x1 A I1 F) s.heap.size) q := fun q h => Or.inr h
  have hS : va_S (va_A (cM T x1 A I1 F) s.heap.size) s.heap s.heap [] := va_S.rf
  have hiRX3 : ∀ w ∈ u_ws RX3 TX3 18, w ∈ wsX3_renew := by decide +kernel
  have hl := lv_entry ([.ref x1, .int p0, .int p1]) (n := 6) (Nat.le_of_ble_eq_true rfl)
  rw [lg_entry_eq]
  generalize (lg_sl ([.ref x1, .int p0, .int p1]) ++ List.replicate (6 - (lg_sl ([.ref x1, .int p0, .int p1])).length) Slot.unset).toArray = ls at hl ⊢
  have hl : lv_has ls 6 [(0, .ref x1), (1, .int p0), (2, .int p1)] := hl
  have hP : va_P G vwCl (cM T x1 A I1 F) s.heap := hP
  refine lv_iload_n hx hb dX3_renew_0 rfl (lv_at hl 1 rfl) ?_
  refine gci (va_runS (As := [.int p0]) (rest := []) ⟨hx, hb, hml, hown, hts⟩ (kX3_isName l G T p0 _) (va_cwS 1 hts gX3_renew_X3_isName rfl rfl rfl (by decide +kernel) ⟨Nat.le_of_ble_eq_true rfl, Nat.le_of_ble_eq_true rfl⟩) ⟨gblind, gpre hE hK hP hD hS hA [] rfl rfl⟩ rfl rfl hl.1 rfl (lv_room (Nat.le_of_ble_eq_true rfl)) dX3_renew_1 ⟨Nat.le_of_ble_eq_true rfl, Nat.le_of_ble_eq_true rfl⟩) hP hD hS hA [] rfl rfl (fun r9 H locs hw hP hD hS => ?_)
  have hP : va_P G vwCl (cM T x1 A I1 F) H := hP
  have hD : va_D (va_A (cM T x1 A I1 F) s.heap.size) (cM T x1 A I1 F) := hD
  subst hw
  refine lv_istore_n (lv' := [(3, .int (bI (okI p0 16))), (0, .ref x1), (1, .int p0), (2, .int p1)]) hx hb dX3_renew_4 rfl hl (by decide) rfl (fun ls hl => ?_)
  refine lv_iload_n hx hb dX3_renew_5 rfl (lv_at hl 3 rfl) ?_
  refine lv_iconst (v := 1) hx hb dX3_renew_6 (by decide) ?_
  refine lv_iconst (v := 5) hx hb dX3_renew_7 (by decide) ?_
  refine gci (va_runS (As := [.int p1, .int 1, .int 5]) (rest := []) ⟨hx, hb, hml, hown, hts⟩ (kX3_isIn l G T p1 1 5 _) (va_cwS 3 hts gX3_renew_X3_isIn rfl rfl rfl (by decide +kernel) ⟨Nat.le_of_ble_eq_true rfl, Nat.le_of_ble_eq_true rfl⟩) ⟨gblind, gpre hE hK hP hD hS hA [] rfl rfl⟩ rfl rfl hl.1 rfl (lv_room (Nat.le_of_ble_eq_true rfl)) dX3_renew_8 ⟨Nat.le_of_ble_eq_true rfl, Nat.le_of_ble_eq_true rfl⟩) hP hD hS hA [] rfl rfl (fun r9 H locs hw hP hD hS => ?_)
  have hP : va_P G vwCl (cM T x1 A I1 F) H := hP
  have hD : va_D (va_A (cM T x1 A I1 F) s.heap.size) (cM T x1 A I1 F) := hD
  subst hw
  refine lv_istore (lv' := [(4, .int (bI (okR p1 1 5))), (3, .int (bI (okI p0 16))), (0, .ref x1), (1, .int p0), (2, .int p1)]) hx hb dX3_renew_11 hl (by decide) rfl (fun ls hl => ?_)
  refine lv_iload_n hx hb dX3_renew_13 rfl (lv_at hl 1 rfl) ?_
  refine lv_if_eq (tgt := 80) hx hb dX3_renew_14 (by decide) (fun c14 => ?_) (fun c14 => ?_)
  · skip
    have t14 : (okI p0 16) = false := bI_f c14
    refine lv_iconst (v := 0) hx hb dX3_renew_80 (by decide) ?_
    refine lv_istore (lv' := [(5, .int 0), (4, .int (bI (okR p1 1 5))), (3, .int (bI (okI p0 16))), (0, .ref x1), (1, .int p0), (2, .int p1)]) hx hb dX3_renew_81 hl (by decide) rfl (fun ls hl => ?_)
    refine lv_aload_n hx hb dX3_renew_83 rfl (lv_at hl 3 rfl) ?_
    refine lv_iload_n hx hb dX3_renew_84 rfl (lv_at hl 2 rfl) ?_
    refine lv_if_ne (tgt := 92) hx hb dX3_renew_85 (by decide) (fun c85 => ?_) (fun c85 => ?_)
    · exact absurd c14 c85
    · skip
      have t85 : (okI p0 16) = false := bI_f c85
      refine lv_iconst (v := 1) hx hb dX3_renew_88 (by decide) ?_
      refine lv_goto (tgt := 111) hx hb dX3_renew_89 (by decide) ?_
      refine gciT (X := ([] : va_W)) (va_runV (As := [.int 1]) (rest := []) ⟨hx, hb, hml, hown, hts⟩ (kX3_fails l G T x1 A I1 F 1 _) (cwV 1 hts gX3_renew_X3_fails rfl rfl rfl (by decide +kernel) ⟨Nat.le_of_ble_eq_true rfl, Nat.le_of_ble_eq_true rfl⟩) ⟨gblind, va_recv hK hP (ci := 3) (q0 := 0) rfl rfl, gpreT (X := ([] : va_W)) hE hK hP hD hS hA⟩ rfl rfl hl.1 rfl (lv_room (Nat.le_of_ble_eq_true rfl)) dX3_renew_111 ⟨Nat.le_of_ble_eq_true rfl, Nat.le_of_ble_eq_true rfl⟩) hP hD hS hA cM_fst (fun r9 H locs hw hP hD hS => ?_)
      have hP : va_P G vwCl (cM T x1 A (upd I1 17 1) F) H := hP
      have hD : va_D (va_A (cM T x1 A I1 F) s.heap.size) (cM T x1 A (upd I1 17 1) F) := hD
      subst hw
      refine gtop (y := 1) (by decide) ?_
      refine lv_if_eq (tgt := 119) hx hb dX3_renew_114 (by decide) (fun c114 => ?_) (fun c114 => ?_)
      · exact absurd c114 (by decide)
      · skip
        refine lv_iconst (v := 0) hx hb dX3_renew_117 (by decide) ?_
        exact W.iret (v := 0) hx hb hr (fun t ht9 hW => ⟨⟨0, (), rfl, (if_neg (by simp [cRenew, c114, t14, t85])).symm, gBi ht9 (gfin hP (mfinF (by simp [cRenew, c114, t14, t85]) (congrArg (upd I1 17) (by simp [w3, cRenew, c114, t14, t85])) rfl))⟩, hS.F ht9⟩) hS.2.2 dX3_renew_118
  · skip
    have t14 : (okI p0 16) = true := bI_t c14
    have e0 := hj t14
    obtain ⟨e0a, e0b⟩ := e0
    rw [show Value.int p0 = Value.int (nI j) from congrArg Value.int e0a] at hl
    refine lv_iload hx hb dX3_renew_17 (lv_at hl 0 rfl) ?_
    refine lv_if_eq (tgt := 80) hx hb dX3_renew_19 (by decide) (fun c19 => ?_) (fun c19 => ?_)
    · skip
      have t19 : (okR p1 1 5) = false := bI_f c19
      refine lv_iconst (v := 0) hx hb dX3_renew_80 (by decide) ?_
      refine lv_istore (lv' := [(5, .int 0), (4, .int (bI (okR p1 1 5))), (3, .int (bI (okI p0 16))), (0, .ref x1), (1, .int (nI j)), (2, .int p1)]) hx hb dX3_renew_81 hl (by decide) rfl (fun ls hl => ?_)
      refine lv_aload_n hx hb dX3_renew_83 rfl (lv_at hl 3 rfl) ?_
      refine lv_iload_n hx hb dX3_renew_84 rfl (lv_at hl 2 rfl) ?_
      refine lv_if_ne (tgt := 92) hx hb dX3_renew_85 (by decide) (fun c85 => ?_) (fun c85 => ?_)
      · skip
        have t85 : (okI p0 16) = true := bI_t c85
        refine lv_iload hx hb dX3_renew_92 (lv_at hl 1 rfl) ?_
        refine lv_if_ne (tgt := 101) hx hb dX3_renew_94 (by decide) (fun c94 => ?_) (fun c94 => ?_)
        · exact absurd c19 c94
        · skip
          have t94 : (okR p1 1 5) = false := bI_f c94
          refine lv_iconst (v := 2) hx hb dX3_renew_97 (by decide) ?_
          refine lv_goto (tgt := 111) hx hb dX3_renew_98 (by decide) ?_
          refine gciT (X := ([] : va_W)) (va_runV (As := [.int 2]) (rest := []) ⟨hx, hb, hml, hown, hts⟩ (kX3_fails l G T x1 A I1 F 2 _) (cwV 1 hts gX3_renew_X3_fails rfl rfl rfl (by decide +kernel) ⟨Nat.le_of_ble_eq_true rfl, Nat.le_of_ble_eq_true rfl⟩) ⟨gblind, va_recv hK hP (ci := 3) (q0 := 0) rfl rfl, gpreT (X := ([] : va_W)) hE hK hP hD hS hA⟩ rfl rfl hl.1 rfl (lv_room (Nat.le_of_ble_eq_true rfl)) dX3_renew_111 ⟨Nat.le_of_ble_eq_true rfl, Nat.le_of_ble_eq_true rfl⟩) hP hD hS hA cM_fst (fun r9 H locs hw hP hD hS => ?_)
          have hP : va_P G vwCl (cM T x1 A (upd I1 17 2) F) H := hP
          have hD : va_D (va_A (cM T x1 A I1 F) s.heap.size) (cM T x1 A (upd I1 17 2) F) := hD
          subst hw
          refine gtop (y := 1) (by decide) ?_
          refine lv_if_eq (tgt := 119) hx hb dX3_renew_114 (by decide) (fun c114 => ?_) (fun c114 => ?_)
          · exact absurd c114 (by decide)
          · skip
            refine lv_iconst (v := 0) hx hb dX3_renew_117 (by decide) ?_
            exact W.iret (v := 0) hx hb hr (fun t ht9 hW => ⟨⟨0, (), rfl, (if_neg (by simp [cRenew, c114, t14, t19, t85, t94])).symm, gBi ht9 (gfin hP (mfinF (by simp [cRenew, c114, t14, t19, t85, t94]) (congrArg (upd I1 17) (by simp [w3, cRenew, c114, t14, t19, t85, t94])) rfl))⟩, hS.F ht9⟩) hS.2.2 dX3_renew_118
      · exact absurd c85 c14
    · skip
      have t19 : (okR p1 1 5) = true := bI_t c19
      refine lv_aload_n hx hb dX3_renew_22 rfl (lv_at hl 2 rfl) ?_
      refine va_get (D := G) (ci := 3) (v := .ref (A 3)) (C := RX3) (T := TX3) (N := 18) hx hb hts hiRX3 hown hK hP 0 rfl rfl 3 (by decide) (hts (.fieldLink RX3 13 "NameAuctionModel" "state" "[I") (by decide +kernel)) (fun _ h9 => h9) rfl dX3_renew_23 ?_
      refine lv_iload_n hx hb dX3_renew_26 rfl (lv_at hl 3 rfl) ?_
      refine giald (j := j) hx hb hK hP 2 0 rfl rfl (show (nI j : Int32) = nI j from rfl) (by omega) (by decide) dX3_renew_27 ?_
      refine lv_iconst (v := 2) hx hb dX3_renew_28 (by decide) ?_
      refine lv_iconst (v := 3) hx hb dX3_renew_29 (by decide) ?_
      refine gci (va_runS (As := [.int ((F 3) j), .int 2, .int 3]) (rest := []) ⟨hx, hb, hml, hown, hts⟩ (kX3_isIn l G T ((F 3) j) 2 3 _) (va_cwS 3 hts gX3_renew_X3_isIn rfl rfl rfl (by decide +kernel) ⟨Nat.le_of_ble_eq_true rfl, Nat.le_of_ble_eq_true rfl⟩) ⟨gblind, gpre hE hK hP hD hS hA [] rfl rfl⟩ rfl rfl hl.1 rfl (lv_room (Nat.le_of_ble_eq_true rfl)) dX3_renew_30 ⟨Nat.le_of_ble_eq_true rfl, Nat.le_of_ble_eq_true rfl⟩) hP hD hS hA [] rfl rfl (fun r9 H locs hw hP hD hS => ?_)
      have hP : va_P G vwCl (cM T x1 A I1 F) H := hP
      have hD : va_D (va_A (cM T x1 A I1 F) s.heap.size) (cM T x1 A I1 F) := hD
      subst hw
      refine lv_if_eq (tgt := 80) hx hb dX3_renew_33 (by decide) (fun c33 => ?_) (fun c33 => ?_)
      · skip
        have t33 : (okR ((F 3) j) 2 3) = false := bI_f c33
        refine lv_iconst (v := 0) hx hb dX3_renew_80 (by decide) ?_
        refine lv_istore (lv' := [(5, .int 0), (4, .int (bI (okR p1 1 5))), (3, .int (bI (okI p0 16))), (0, .ref x1), (1, .int (nI j)), (2, .int p1)]) hx hb dX3_renew_81 hl (by decide) rfl (fun ls hl => ?_)
        refine lv_aload_n hx hb dX3_renew_83 rfl (lv_at hl 3 rfl) ?_
        refine lv_iload_n hx hb dX3_renew_84 rfl (lv_at hl 2 rfl) ?_
        refine lv_if_ne (tgt := 92) hx hb dX3_renew_85 (by decide) (fun c85 => ?_) (fun c85 => ?_)
        · skip
          have t85 : (okI p0 16) = true := bI_t c85
          refine lv_iload hx hb dX3_renew_92 (lv_at hl 1 rfl) ?_
          refine lv_if_ne (tgt := 101) hx hb dX3_renew_94 (by decide) (fun c94 => ?_) (fun c94 => ?_)
          · skip
            have t94 : (okR p1 1 5) = true := bI_t c94
            refine lv_iload hx hb dX3_renew_101 (lv_at hl 0 rfl) ?_
            refine lv_if_eq (tgt := 110) hx hb dX3_renew_103 (by decide) (fun c103 => ?_) (fun c103 => ?_)
            · skip
              refine lv_iconst (v := 3) hx hb dX3_renew_110 (by decide) ?_
              refine gciT (X := ([] : va_W)) (va_runV (As := [.int 3]) (rest := []) ⟨hx, hb, hml, hown, hts⟩ (kX3_fails l G T x1 A I1 F 3 _) (cwV 1 hts gX3_renew_X3_fails rfl rfl rfl (by decide +kernel) ⟨Nat.le_of_ble_eq_true rfl, Nat.le_of_ble_eq_true rfl⟩) ⟨gblind, va_recv hK hP (ci := 3) (q0 := 0) rfl rfl, gpreT (X := ([] : va_W)) hE hK hP hD hS hA⟩ rfl rfl hl.1 rfl (lv_room (Nat.le_of_ble_eq_true rfl)) dX3_renew_111 ⟨Nat.le_of_ble_eq_true rfl, Nat.le_of_ble_eq_true rfl⟩) hP hD hS hA cM_fst (fun r9 H locs hw hP hD hS => ?_)
              have hP : va_P G vwCl (cM T x1 A (upd I1 17 3) F) H := hP
              have hD : va_D (va_A (cM T x1 A I1 F) s.heap.size) (cM T x1 A (upd I1 17 3) F) := hD
              subst hw
              refine gtop (y := 1) (by decide) ?_
              refine lv_if_eq (tgt := 119) hx hb dX3_renew_114 (by decide) (fun c114 => ?_) (fun c114 => ?_)
              · exact absurd c114 (by decide)
              · skip
                refine lv_iconst (v := 0) hx hb dX3_renew_117 (by decide) ?_
                exact W.iret (v := 0) hx hb hr (fun t ht9 hW => ⟨⟨0, (), rfl, (if_neg (by simp [cRenew, c103, c114, t14, t19, t33, t85, t94])).symm, gBi ht9 (gfin hP (mfinF (by simp [cRenew, c103, c114, t14, t19, t33, t85, t94]) (congrArg (upd I1 17) (by simp [w3, cRenew, c103, c114, t14, t19, t33, t85, t94])) rfl))⟩, hS.F ht9⟩) hS.2.2 dX3_renew_118
            · exact absurd c103 (by decide)
          · exact absurd c94 c19
        · exact absurd c85 c14
      · skip
        have t33 : (okR ((F 3) j) 2 3) = true := bI_t c33
        obtain ⟨e1a, e1b⟩ := ho t33
        refine lv_aload_n hx hb dX3_renew_36 rfl (lv_at hl 2 rfl) ?_
        refine va_get (D := G) (ci := 3) (v := .ref (A 5)) (C := RX3) (T := TX3) (N := 18) hx hb hts hiRX3 hown hK hP 0 rfl rfl 5 (by decide) (hts (.fieldLink RX3 19 "NameAuctionModel" "day" "[I") (by decide +kernel)) (fun _ h9 => h9) rfl dX3_renew_37 ?_
        refine lv_iload_n hx hb dX3_renew_40 rfl (lv_at hl 3 rfl) ?_
        refine giald (j := j) hx hb hK hP 4 0 rfl rfl (show (nI j : Int32) = nI j from rfl) (by omega) (by decide) dX3_renew_41 ?_
        refine lv_bipush (v := 100) hx hb dX3_renew_42 (by decide) ?_
        refine lv_iload_n hx hb dX3_renew_44 rfl (lv_at hl 4 rfl) ?_
        refine lv_imul hx hb dX3_renew_45 ?_
        refine lv_iadd hx hb dX3_renew_46 ?_
        refine lv_aload_n hx hb dX3_renew_47 rfl (lv_at hl 2 rfl) ?_
        refine va_get (D := G) (ci := 3) (v := .int (I1 0)) (C := RX3) (T := TX3) (N := 18) hx hb hts hiRX3 hown hK hP 0 rfl rfl 0 (by decide) (hts (.fieldLink RX3 71 "NameAuctionModel" "today" "I") (by decide +kernel)) (fun _ h9 => h9) rfl dX3_renew_48 ?_
        refine lv_sipush (v := 600) hx hb dX3_renew_51 (by decide) ?_
        refine lv_iadd hx hb dX3_renew_54 ?_
        refine lv_icmp_gt (tgt := 80) hx hb dX3_renew_55 (by decide) (fun c55 => ?_) (fun c55 => ?_)
        · skip
          refine lv_iconst (v := 0) hx hb dX3_renew_80 (by decide) ?_
          refine lv_istore (lv' := [(5, .int 0), (4, .int (bI (okR p1 1 5))), (3, .int (bI (okI p0 16))), (0, .ref x1), (1, .int (nI j)), (2, .int p1)]) hx hb dX3_renew_81 hl (by decide) rfl (fun ls hl => ?_)
          refine lv_aload_n hx hb dX3_renew_83 rfl (lv_at hl 3 rfl) ?_
          refine lv_iload_n hx hb dX3_renew_84 rfl (lv_at hl 2 rfl) ?_
          refine lv_if_ne (tgt := 92) hx hb dX3_renew_85 (by decide) (fun c85 => ?_) (fun c85 => ?_)
          · skip
            have t85 : (okI p0 16) = true := bI_t c85
            refine lv_iload hx hb dX3_renew_92 (lv_at hl 1 rfl) ?_
            refine lv_if_ne (tgt := 101) hx hb dX3_renew_94 (by decide) (fun c94 => ?_) (fun c94 => ?_)
            · skip
              have t94 : (okR p1 1 5) = true := bI_t c94
              refine lv_iload hx hb dX3_renew_101 (lv_at hl 0 rfl) ?_
              refine lv_if_eq (tgt := 110) hx hb dX3_renew_103 (by decide) (fun c103 => ?_) (fun c103 => ?_)
              · skip
                refine lv_iconst (v := 3) hx hb dX3_renew_110 (by decide) ?_
                refine gciT (X := ([] : va_W)) (va_runV (As := [.int 3]) (rest := []) ⟨hx, hb, hml, hown, hts⟩ (kX3_fails l G T x1 A I1 F 3 _) (cwV 1 hts gX3_renew_X3_fails rfl rfl rfl (by decide +kernel) ⟨Nat.le_of_ble_eq_true rfl, Nat.le_of_ble_eq_true rfl⟩) ⟨gblind, va_recv hK hP (ci := 3) (q0 := 0) rfl rfl, gpreT (X := ([] : va_W)) hE hK hP hD hS hA⟩ rfl rfl hl.1 rfl (lv_room (Nat.le_of_ble_eq_true rfl)) dX3_renew_111 ⟨Nat.le_of_ble_eq_true rfl, Nat.le_of_ble_eq_true rfl⟩) hP hD hS hA cM_fst (fun r9 H locs hw hP hD hS => ?_)
                have hP : va_P G vwCl (cM T x1 A (upd I1 17 3) F) H := hP
                have hD : va_D (va_A (cM T x1 A I1 F) s.heap.size) (cM T x1 A (upd I1 17 3) F) := hD
                subst hw
                refine gtop (y := 1) (by decide) ?_
                refine lv_if_eq (tgt := 119) hx hb dX3_renew_114 (by decide) (fun c114 => ?_) (fun c114 => ?_)
                · exact absurd c114 (by decide)
                · skip
                  refine lv_iconst (v := 0) hx hb dX3_renew_117 (by decide) ?_
                  exact W.iret (v := 0) hx hb hr (fun t ht9 hW => ⟨⟨0, (), rfl, (if_neg (by simp [cRenew, c55, c103, c114, t14, t19, t33, t85, t94])).symm, gBi ht9 (gfin hP (mfinF (by simp [cRenew, c55, c103, c114, t14, t19, t33, t85, t94]) (congrArg (upd I1 17) (by simp [w3, cRenew, c55, c103, c114, t14, t19, t33, t85, t94])) rfl))⟩, hS.F ht9⟩) hS.2.2 dX3_renew_118
              · exact absurd c103 (by decide)
            · exact absurd c94 c19
          · exact absurd c85 c14
        · skip
          refine lv_aload_n hx hb dX3_renew_58 rfl (lv_at hl 2 rfl) ?_
          refine va_get (D := G) (ci := 3) (v := .ref (A 2)) (C := RX3) (T := TX3) (N := 18) hx hb hts hiRX3 hown hK hP 0 rfl rfl 2 (by decide) (hts (.fieldLink RX3 7 "NameAuctionModel" "funds" "[I") (by decide +kernel)) (fun _ h9 => h9) rfl dX3_renew_59 ?_
          refine lv_aload_n hx hb dX3_renew_62 rfl (lv_at hl 2 rfl) ?_
          refine va_get (D := G) (ci := 3) (v := .ref (A 4)) (C := RX3) (T := TX3) (N := 18) hx hb hts hiRX3 hown hK hP 0 rfl rfl 4 (by decide) (hts (.fieldLink RX3 16 "NameAuctionModel" "owner" "[I") (by decide +kernel)) (fun _ h9 => h9) rfl dX3_renew_63 ?_
          refine lv_iload_n hx hb dX3_renew_66 rfl (lv_at hl 3 rfl) ?_
          refine giald (j := j) hx hb hK hP 3 0 rfl rfl (show (nI j : Int32) = nI j from rfl) (by omega) (by decide) dX3_renew_67 ?_
          refine gtop (y := nI o) e1a ?_
          refine giald (j := o) hx hb hK hP 1 0 rfl rfl (show (nI o : Int32) = nI o from rfl) (by omega) (by decide) dX3_renew_68 ?_
          refine lv_bipush (v := 20) hx hb dX3_renew_69 (by decide) ?_
          refine lv_iload_n hx hb dX3_renew_71 rfl (lv_at hl 4 rfl) ?_
          refine lv_imul hx hb dX3_renew_72 ?_
          refine lv_icmp_lt (tgt := 80) hx hb dX3_renew_73 (by decide) (fun c73 => ?_) (fun c73 => ?_)
          · skip
            refine lv_iconst (v := 0) hx hb dX3_renew_80 (by decide) ?_
            refine lv_istore (lv' := [(5, .int 0), (4, .int (bI (okR p1 1 5))), (3, .int (bI (okI p0 16))), (0, .ref x1), (1, .int (nI j)), (2, .int p1)]) hx hb dX3_renew_81 hl (by decide) rfl (fun ls hl => ?_)
            refine lv_aload_n hx hb dX3_renew_83 rfl (lv_at hl 3 rfl) ?_
            refine lv_iload_n hx hb dX3_renew_84 rfl (lv_at hl 2 rfl) ?_
            refine lv_if_ne (tgt := 92) hx hb dX3_renew_85 (by decide) (fun c85 => ?_) (fun c85 => ?_)
            · skip
              have t85 : (okI p0 16) = true := bI_t c85
              refine lv_iload hx hb dX3_renew_92 (lv_at hl 1 rfl) ?_
              refine lv_if_ne (tgt := 101) hx hb dX3_renew_94 (by decide) (fun c94 => ?_) (fun c94 => ?_)
              · skip
                have t94 : (okR p1 1 5) = true := bI_t c94
                refine lv_iload hx hb dX3_renew_101 (lv_at hl 0 rfl) ?_
                refine lv_if_eq (tgt := 110) hx hb dX3_renew_103 (by decide) (fun c103 => ?_) (fun c103 => ?_)
                · skip
                  refine lv_iconst (v := 3) hx hb dX3_renew_110 (by decide) ?_
                  refine gciT (X := ([] : va_W)) (va_runV (As := [.int 3]) (rest := []) ⟨hx, hb, hml, hown, hts⟩ (kX3_fails l G T x1 A I1 F 3 _) (cwV 1 hts gX3_renew_X3_fails rfl rfl rfl (by decide +kernel) ⟨Nat.le_of_ble_eq_true rfl, Nat.le_of_ble_eq_true rfl⟩) ⟨gblind, va_recv hK hP (ci := 3) (q0 := 0) rfl rfl, gpreT (X := ([] : va_W)) hE hK hP hD hS hA⟩ rfl rfl hl.1 rfl (lv_room (Nat.le_of_ble_eq_true rfl)) dX3_renew_111 ⟨Nat.le_of_ble_eq_true rfl, Nat.le_of_ble_eq_true rfl⟩) hP hD hS hA cM_fst (fun r9 H locs hw hP hD hS => ?_)
                  have hP : va_P G vwCl (cM T x1 A (upd I1 17 3) F) H := hP
                  have hD : va_D (va_A (cM T x1 A I1 F) s.heap.size) (cM T x1 A (upd I1 17 3) F) := hD
                  subst hw
                  refine gtop (y := 1) (by decide) ?_
                  refine lv_if_eq (tgt := 119) hx hb dX3_renew_114 (by decide) (fun c114 => ?_) (fun c114 => ?_)
                  · exact absurd c114 (by decide)
                  · skip
                    refine lv_iconst (v := 0) hx hb dX3_renew_117 (by decide) ?_
                    exact W.iret (v := 0) hx hb hr (fun t ht9 hW => ⟨⟨0, (), rfl, (if_neg (by simp [cRenew, c55, c73, c103, c114, t14, t19, t33, t85, t94])).symm, gBi ht9 (gfin hP (mfinF (by simp [cRenew, c55, c73, c103, c114, t14, t19, t33, t85, t94]) (congrArg (upd I1 17) (by simp [w3, cRenew, c55, c73, c103, c114, t14, t19, t33, t85, t94])) rfl))⟩, hS.F ht9⟩) hS.2.2 dX3_renew_118
                · exact absurd c103 (by decide)
              · exact absurd c94 c19
            · exact absurd c85 c14
          · skip
            refine lv_iconst (v := 1) hx hb dX3_renew_76 (by decide) ?_
            refine lv_goto (tgt := 81) hx hb dX3_renew_77 (by decide) ?_
            refine lv_istore (lv' := [(5, .int 1), (4, .int (bI (okR p1 1 5))), (3, .int (bI (okI p0 16))), (0, .ref x1), (1, .int (nI j)), (2, .int p1)]) hx hb dX3_renew_81 hl (by decide) rfl (fun ls hl => ?_)
            refine lv_aload_n hx hb dX3_renew_83 rfl (lv_at hl 3 rfl) ?_
            refine lv_iload_n hx hb dX3_renew_84 rfl (lv_at hl 2 rfl) ?_
            refine lv_if_ne (tgt := 92) hx hb dX3_renew_85 (by decide) (fun c85 => ?_) (fun c85 => ?_)
            · skip
              have t85 : (okI p0 16) = true := bI_t c85
              refine lv_iload hx hb dX3_renew_92 (lv_at hl 1 rfl) ?_
              refine lv_if_ne (tgt := 101) hx hb dX3_renew_94 (by decide) (fun c94 => ?_) (fun c94 => ?_)
              · skip
                have t94 : (okR p1 1 5) = true := bI_t c94
                refine lv_iload hx hb dX3_renew_101 (lv_at hl 0 rfl) ?_
                refine lv_if_eq (tgt := 110) hx hb dX3_renew_103 (by decide) (fun c103 => ?_) (fun c103 => ?_)
                · exact absurd c103 (by decide)
                · skip
                  refine lv_iconst (v := 0) hx hb dX3_renew_106 (by decide) ?_
                  refine lv_goto (tgt := 111) hx hb dX3_renew_107 (by decide) ?_
                  refine gciT (X := ([] : va_W)) (va_runV (As := [.int 0]) (rest := []) ⟨hx, hb, hml, hown, hts⟩ (kX3_fails l G T x1 A I1 F 0 _) (cwV 1 hts gX3_renew_X3_fails rfl rfl rfl (by decide +kernel) ⟨Nat.le_of_ble_eq_true rfl, Nat.le_of_ble_eq_true rfl⟩) ⟨gblind, va_recv hK hP (ci := 3) (q0 := 0) rfl rfl, gpreT (X := ([] : va_W)) hE hK hP hD hS hA⟩ rfl rfl hl.1 rfl (lv_room (Nat.le_of_ble_eq_true rfl)) dX3_renew_111 ⟨Nat.le_of_ble_eq_true rfl, Nat.le_of_ble_eq_true rfl⟩) hP hD hS hA cM_fst (fun r9 H locs hw hP hD hS => ?_)
                  have hP : va_P G vwCl (cM T x1 A (upd I1 17 0) F) H := hP
                  have hD : va_D (va_A (cM T x1 A I1 F) s.heap.size) (cM T x1 A (upd I1 17 0) F) := hD
                  subst hw
                  refine gtop (y := 0) (by decide) ?_
                  refine lv_if_eq (tgt := 119) hx hb dX3_renew_114 (by decide) (fun c114 => ?_) (fun c114 => ?_)
                  · skip
                    refine lv_aload_n hx hb dX3_renew_119 rfl (lv_at hl 3 rfl) ?_
                    refine lv_aload_n hx hb dX3_renew_120 rfl (lv_at hl 3 rfl) ?_
                    refine va_get (D := G) (ci := 3) (v := .ref (A 4)) (C := RX3) (T := TX3) (N := 18) hx hb hts hiRX3 hown hK hP 0 rfl rfl 4 (by decide) (hts (.fieldLink RX3 16 "NameAuctionModel" "owner" "[I") (by decide +kernel)) (fun _ h9 => h9) rfl dX3_renew_121 ?_
                    refine lv_iload_n hx hb dX3_renew_124 rfl (lv_at hl 4 rfl) ?_
                    refine giald (j := j) hx hb hK hP 3 0 rfl rfl (show (nI j : Int32) = nI j from rfl) (by omega) (by decide) dX3_renew_125 ?_
                    refine gtop (y := nI o) e1a ?_
                    refine lv_bipush (v := 20) hx hb dX3_renew_126 (by decide) ?_
                    refine lv_iload_n hx hb dX3_renew_128 rfl (lv_at hl 5 rfl) ?_
                    refine lv_imul hx hb dX3_renew_129 ?_
                    refine gcvT (X := ([] : va_W)) (va_runV (As := [.int (nI o), .int (20 * p1)]) (rest := []) ⟨hx, hb, hml, hown, hts⟩ (kX3_pays l G T x1 A (upd I1 17 0) F o (20 * p1) _ (by omega)) (cwV 2 hts gX3_renew_X3_pays rfl rfl rfl (by decide +kernel) ⟨Nat.le_of_ble_eq_true rfl, Nat.le_of_ble_eq_true rfl⟩) ⟨gblind, va_recv hK hP (ci := 3) (q0 := 0) rfl rfl, gpreT (X := ([] : va_W)) hE hK hP hD hS hA⟩ rfl rfl hl.1 rfl (lv_room (Nat.le_of_ble_eq_true rfl)) dX3_renew_130 ⟨Nat.le_of_ble_eq_true rfl, Nat.le_of_ble_eq_true rfl⟩) hP hD hS hA cM_fst (fun H locs hw hP hD hS => ?_)
                    have hP : va_P G vwCl (cM T x1 A (upd (upd I1 17 0) 1 ((upd I1 17 0) 1 + (20 * p1))) (mPayF F o (20 * p1))) H := hP
                    have hD : va_D (va_A (cM T x1 A I1 F) s.heap.size) (cM T x1 A (upd (upd I1 17 0) 1 ((upd I1 17 0) 1 + (20 * p1))) (mPayF F o (20 * p1))) := hD
                    refine lv_aload_n hx hb dX3_renew_133 rfl (lv_at hl 3 rfl) ?_
                    refine va_get (D := G) (ci := 3) (v := .ref (A 5)) (C := RX3) (T := TX3) (N := 18) hx hb hts hiRX3 hown hK hP 0 rfl rfl 5 (by decide) (hts (.fieldLink RX3 19 "NameAuctionModel" "day" "[I") (by decide +kernel)) (fun _ h9 => h9) rfl dX3_renew_134 ?_
                    refine lv_iload_n hx hb dX3_renew_137 rfl (lv_at hl 4 rfl) ?_
                    refine lv_dup2_11 hx hb dX3_renew_138 rfl rfl ?_
                    refine giald (j := j) hx hb hK hP 4 0 rfl rfl (show (nI j : Int32) = nI j from rfl) (by omega) (by decide) dX3_renew_139 ?_
                    refine lv_bipush (v := 100) hx hb dX3_renew_140 (by decide) ?_
                    refine lv_iload_n hx hb dX3_renew_142 rfl (lv_at hl 5 rfl) ?_
                    refine lv_imul hx hb dX3_renew_143 ?_
                    refine lv_iadd hx hb dX3_renew_144 ?_
                    refine giast (j := j) hx hb hK hP hD hS 4 0 rfl rfl (show (nI j : Int32) = nI j from rfl) (by omega) (by decide) dX3_renew_145 (fun H locs hP hD hS => ?_)
                    have hP : va_P G vwCl (cM T x1 A (upd (upd I1 17 0) 1 ((upd I1 17 0) 1 + (20 * p1))) (updA (mPayF F o (20 * p1)) 5 (upd ((mPayF F o (20 * p1)) 5) j ((((mPayF F o (20 * p1)) 5) j) + (100 * p1))))) H := hP
                    have hD : va_D (va_A (cM T x1 A I1 F) s.heap.size) (cM T x1 A (upd (upd I1 17 0) 1 ((upd I1 17 0) 1 + (20 * p1))) (updA (mPayF F o (20 * p1)) 5 (upd ((mPayF F o (20 * p1)) 5) j ((((mPayF F o (20 * p1)) 5) j) + (100 * p1))))) := hD
                    refine lv_aload_n hx hb dX3_renew_146 rfl (lv_at hl 3 rfl) ?_
                    refine va_get (D := G) (ci := 3) (v := .ref (A 3)) (C := RX3) (T := TX3) (N := 18) hx hb hts hiRX3 hown hK hP 0 rfl rfl 3 (by decide) (hts (.fieldLink RX3 13 "NameAuctionModel" "state" "[I") (by decide +kernel)) (fun _ h9 => h9) rfl dX3_renew_147 ?_
                    refine lv_iload_n hx hb dX3_renew_150 rfl (lv_at hl 4 rfl) ?_
                    refine lv_iconst (v := 2) hx hb dX3_renew_151 (by decide) ?_
                    refine giast (j := j) hx hb hK hP hD hS 2 0 rfl rfl (show (nI j : Int32) = nI j from rfl) (by omega) (by decide) dX3_renew_152 (fun H locs hP hD hS => ?_)
                    have hP : va_P G vwCl (cM T x1 A (upd (upd I1 17 0) 1 ((upd I1 17 0) 1 + (20 * p1))) (updA (updA (mPayF F o (20 * p1)) 5 (upd ((mPayF F o (20 * p1)) 5) j ((((mPayF F o (20 * p1)) 5) j) + (100 * p1)))) 3 (upd ((mPayF F o (20 * p1)) 3) j 2))) H := hP
                    have hD : va_D (va_A (cM T x1 A I1 F) s.heap.size) (cM T x1 A (upd (upd I1 17 0) 1 ((upd I1 17 0) 1 + (20 * p1))) (updA (updA (mPayF F o (20 * p1)) 5 (upd ((mPayF F o (20 * p1)) 5) j ((((mPayF F o (20 * p1)) 5) j) + (100 * p1)))) 3 (upd ((mPayF F o (20 * p1)) 3) j 2))) := hD
                    refine lv_aload_n hx hb dX3_renew_153 rfl (lv_at hl 3 rfl) ?_
                    refine va_get (D := G) (ci := 3) (v := .ref (A 5)) (C := RX3) (T := TX3) (N := 18) hx hb hts hiRX3 hown hK hP 0 rfl rfl 5 (by decide) (hts (.fieldLink RX3 19 "NameAuctionModel" "day" "[I") (by decide +kernel)) (fun _ h9 => h9) rfl dX3_renew_154 ?_
                    refine lv_iload_n hx hb dX3_renew_157 rfl (lv_at hl 4 rfl) ?_
                    refine giald (j := j) hx hb hK hP 4 0 rfl rfl (show (nI j : Int32) = nI j from rfl) (by omega) (by decide) dX3_renew_158 ?_
                    exact W.iret (v := (upd ((mPayF F o (20 * p1)) 5) j ((((mPayF F o (20 * p1)) 5) j) + (100 * p1))) j) hx hb hr (fun t ht9 hW => ⟨⟨(upd ((mPayF F o (20 * p1)) 5) j ((((mPayF F o (20 * p1)) 5) j) + (100 * p1))) j, (), rfl, (show ((upd ((mPayF F o (20 * p1)) 5) j ((((mPayF F o (20 * p1)) 5) j) + (100 * p1))) j) = (F 5 j + 100 * p1) from by simp [upd, updA, mPayF]).trans (if_pos (show (cRenew I1 F j o p0 p1) = 0 by simp [cRenew, c55, c73, c103, c114, t14, t19, t33, t85, t94])).symm, gBi ht9 (gfin hP (mfinT (by simp [cRenew, c55, c73, c103, c114, t14, t19, t33, t85, t94]) (rfl) (rfl)))⟩, hS.F ht9⟩) hS.2.2 dX3_renew_159
                  · exact absurd c114 (by decide)
              · exact absurd c94 c19
            · exact absurd c85 c14
abbrev PX3_redeem (G : va_G) (T : Nat → ClassId) (x1 : Nat) (A : Nat → Nat) (I1 : Nat → Int32) (F : Nat → Nat → Int32) (j o : Nat) (p0 : Int32) (sz : Nat) : Array Value → State → Prop := gPc G T [.ref x1, .int p0] (cM T x1 A I1 F) sz
abbrev QX3_redeem (G : va_G) (T : Nat → ClassId) (x1 : Nat) (A : Nat → Nat) (I1 : Nat → Int32) (F : Nat → Nat → Int32) (j o : Nat) (p0 : Int32) (sz : Nat) : Array Value → State → Outcome → State → Prop := va_Qi (fun (r : Int32) (_ : Unit) => r = if (cRedeem F j o p0) = 0 then I1 0 + 100 else 0) (gB G (cM T x1 A (if (cRedeem F j o p0) = 0 then (upd (upd I1 17 0) 1 (I1 1 + 50)) else upd I1 17 (w13 (cRedeem F j o p0))) (if (cRedeem F j o p0) = 0 then (mLease (mPayF F o 50) j (F 4 j) (I1 0)) else F))) (va_A (cM T x1 A I1 F) sz)
set_option maxHeartbeats 4000000 in
set_option maxRecDepth 100000 in
theorem kX3_redeem (l : Launch) (G : va_G) (T : Nat → ClassId) (x1 : Nat) (A : Nat → Nat) (I1 : Nat → Int32) (F : Nat → Nat → Int32) (j o : Nat) (p0 : Int32) (sz : Nat) (hj : okI p0 16 = true → p0 = nI j ∧ j < 16) (ho : F 3 j = 4 → F 4 j = nI o ∧ o < 6) : Met l yX3_redeem wsX3_redeem ({ frames := 2, cells := 0, slots := 0, locals := 42 } : Room) (PX3_redeem G T x1 A I1 F j o p0 sz) (QX3_redeem G T x1 A I1 F j o p0 sz) 0 0 (va_A (cM T x1 A I1 F) sz) := by
  refine Met.ofW (cc := cX3_redeem) (maxL := 4) (ret := (some .int)) (by decide) rfl ?_
  intro p e s m args below meth c s₁ B hml hv
  obtain ⟨rfl, hsz, hP, hK, hD0, hE⟩ := hv
  have hx := B.exec
  have hb := B.bytes
  have hr := B.returns
  have hts := atoms_spec (ws := wsX3_redeem) B.pre
  have hown : s.vm.findClass RX3 = some m.cls := findClass_of_methodNamed B.named
  have hlocks := B.notSynchronized
  subst hsz
  have hD := hD0.self (sz := s.heap.size)
  have hA : ∀ q : Nat, s.heap.size ≤ q → (va_A (cM T x1 A I1 F) s.heap.size) q := fun q h => Or.inr h
  have hS : va_S (va_A (cM T x1 A I1 F) s.heap.size) s.heap s.heap [] := va_S.rf
  have hiRX3 : ∀ w ∈ u_ws RX3 TX3 18, w ∈ wsX3_redeem := by decide +kernel
  have hl := lv_entry ([.ref x1, .int p0]) (n := 4) (Nat.le_of_ble_eq_true rfl)
  rw [lg_entry_eq]
  generalize (lg_sl ([.ref x1, .int p0]) ++ List.replicate (4 - (lg_sl ([.ref x1, .int p0])).length) Slot.unset).toArray = ls at hl ⊢
  have hl : lv_has ls 4 [(0, .ref x1), (1, .int p0)] := hl
  have hP : va_P G vwCl (cM T x1 A I1 F) s.heap := hP
  refine lv_iload_n hx hb dX3_redeem_0 rfl (lv_at hl 1 rfl) ?_
  refine gci (va_runS (As := [.int p0]) (rest := []) ⟨hx, hb, hml, hown, hts⟩ (kX3_isName l G T p0 _) (va_cwS 1 hts gX3_redeem_X3_isName rfl rfl rfl (by decide +kernel) ⟨Nat.le_of_ble_eq_true rfl, Nat.le_of_ble_eq_true rfl⟩) ⟨gblind, gpre hE hK hP hD hS hA [] rfl rfl⟩ rfl rfl hl.1 rfl (lv_room (Nat.le_of_ble_eq_true rfl)) dX3_redeem_1 ⟨Nat.le_of_ble_eq_true rfl, Nat.le_of_ble_eq_true rfl⟩) hP hD hS hA [] rfl rfl (fun r9 H locs hw hP hD hS => ?_)
  have hP : va_P G vwCl (cM T x1 A I1 F) H := hP
  have hD : va_D (va_A (cM T x1 A I1 F) s.heap.size) (cM T x1 A I1 F) := hD
  subst hw
  refine lv_istore_n (lv' := [(2, .int (bI (okI p0 16))), (0, .ref x1), (1, .int p0)]) hx hb dX3_redeem_4 rfl hl (by decide) rfl (fun ls hl => ?_)
  refine lv_iload_n hx hb dX3_redeem_5 rfl (lv_at hl 0 rfl) ?_
  refine lv_if_eq (tgt := 39) hx hb dX3_redeem_6 (by decide) (fun c6 => ?_) (fun c6 => ?_)
  · skip
    have t6 : (okI p0 16) = false := bI_f c6
    refine lv_iconst (v := 0) hx hb dX3_redeem_39 (by decide) ?_
    refine lv_istore_n (lv' := [(3, .int 0), (2, .int (bI (okI p0 16))), (0, .ref x1), (1, .int p0)]) hx hb dX3_redeem_40 rfl hl (by decide) rfl (fun ls hl => ?_)
    refine lv_aload_n hx hb dX3_redeem_41 rfl (lv_at hl 2 rfl) ?_
    refine lv_iload_n hx hb dX3_redeem_42 rfl (lv_at hl 1 rfl) ?_
    refine lv_if_ne (tgt := 50) hx hb dX3_redeem_43 (by decide) (fun c43 => ?_) (fun c43 => ?_)
    · exact absurd c6 c43
    · skip
      have t43 : (okI p0 16) = false := bI_f c43
      refine lv_iconst (v := 1) hx hb dX3_redeem_46 (by decide) ?_
      refine lv_goto (tgt := 59) hx hb dX3_redeem_47 (by decide) ?_
      refine gciT (X := ([] : va_W)) (va_runV (As := [.int 1]) (rest := []) ⟨hx, hb, hml, hown, hts⟩ (kX3_fails l G T x1 A I1 F 1 _) (cwV 1 hts gX3_redeem_X3_fails rfl rfl rfl (by decide +kernel) ⟨Nat.le_of_ble_eq_true rfl, Nat.le_of_ble_eq_true rfl⟩) ⟨gblind, va_recv hK hP (ci := 3) (q0 := 0) rfl rfl, gpreT (X := ([] : va_W)) hE hK hP hD hS hA⟩ rfl rfl hl.1 rfl (lv_room (Nat.le_of_ble_eq_true rfl)) dX3_redeem_59 ⟨Nat.le_of_ble_eq_true rfl, Nat.le_of_ble_eq_true rfl⟩) hP hD hS hA cM_fst (fun r9 H locs hw hP hD hS => ?_)
      have hP : va_P G vwCl (cM T x1 A (upd I1 17 1) F) H := hP
      have hD : va_D (va_A (cM T x1 A I1 F) s.heap.size) (cM T x1 A (upd I1 17 1) F) := hD
      subst hw
      refine gtop (y := 1) (by decide) ?_
      refine lv_if_eq (tgt := 67) hx hb dX3_redeem_62 (by decide) (fun c62 => ?_) (fun c62 => ?_)
      · exact absurd c62 (by decide)
      · skip
        refine lv_iconst (v := 0) hx hb dX3_redeem_65 (by decide) ?_
        exact W.iret (v := 0) hx hb hr (fun t ht9 hW => ⟨⟨0, (), rfl, (if_neg (by simp [cRedeem, c62, t6, t43])).symm, gBi ht9 (gfin hP (mfinF (by simp [cRedeem, c62, t6, t43]) (congrArg (upd I1 17) (by simp [w13, cRedeem, c62, t6, t43])) rfl))⟩, hS.F ht9⟩) hS.2.2 dX3_redeem_66
  · skip
    have t6 : (okI p0 16) = true := bI_t c6
    have e0 := hj t6
    obtain ⟨e0a, e0b⟩ := e0
    rw [show Value.int p0 = Value.int (nI j) from congrArg Value.int e0a] at hl
    refine lv_aload_n hx hb dX3_redeem_9 rfl (lv_at hl 1 rfl) ?_
    refine va_get (D := G) (ci := 3) (v := .ref (A 3)) (C := RX3) (T := TX3) (N := 18) hx hb hts hiRX3 hown hK hP 0 rfl rfl 3 (by decide) (hts (.fieldLink RX3 13 "NameAuctionModel" "state" "[I") (by decide +kernel)) (fun _ h9 => h9) rfl dX3_redeem_10 ?_
    refine lv_iload_n hx hb dX3_redeem_13 rfl (lv_at hl 2 rfl) ?_
    refine giald (j := j) hx hb hK hP 2 0 rfl rfl (show (nI j : Int32) = nI j from rfl) (by omega) (by decide) dX3_redeem_14 ?_
    refine lv_iconst (v := 4) hx hb dX3_redeem_15 (by decide) ?_
    refine lv_icmp_ne (tgt := 39) hx hb dX3_redeem_16 (by decide) (fun c16 => ?_) (fun c16 => ?_)
    · skip
      refine lv_iconst (v := 0) hx hb dX3_redeem_39 (by decide) ?_
      refine lv_istore_n (lv' := [(3, .int 0), (2, .int (bI (okI p0 16))), (0, .ref x1), (1, .int (nI j))]) hx hb dX3_redeem_40 rfl hl (by decide) rfl (fun ls hl => ?_)
      refine lv_aload_n hx hb dX3_redeem_41 rfl (lv_at hl 2 rfl) ?_
      refine lv_iload_n hx hb dX3_redeem_42 rfl (lv_at hl 1 rfl) ?_
      refine lv_if_ne (tgt := 50) hx hb dX3_redeem_43 (by decide) (fun c43 => ?_) (fun c43 => ?_)
      · skip
        have t43 : (okI p0 16) = true := bI_t c43
        refine lv_iload_n hx hb dX3_redeem_50 rfl (lv_at hl 0 rfl) ?_
        refine lv_if_eq (tgt := 58) hx hb dX3_redeem_51 (by decide) (fun c51 => ?_) (fun c51 => ?_)
        · skip
          refine lv_iconst (v := 2) hx hb dX3_redeem_58 (by decide) ?_
          refine gciT (X := ([] : va_W)) (va_runV (As := [.int 2]) (rest := []) ⟨hx, hb, hml, hown, hts⟩ (kX3_fails l G T x1 A I1 F 2 _) (cwV 1 hts gX3_redeem_X3_fails rfl rfl rfl (by decide +kernel) ⟨Nat.le_of_ble_eq_true rfl, Nat.le_of_ble_eq_true rfl⟩) ⟨gblind, va_recv hK hP (ci := 3) (q0 := 0) rfl rfl, gpreT (X := ([] : va_W)) hE hK hP hD hS hA⟩ rfl rfl hl.1 rfl (lv_room (Nat.le_of_ble_eq_true rfl)) dX3_redeem_59 ⟨Nat.le_of_ble_eq_true rfl, Nat.le_of_ble_eq_true rfl⟩) hP hD hS hA cM_fst (fun r9 H locs hw hP hD hS => ?_)
          have hP : va_P G vwCl (cM T x1 A (upd I1 17 2) F) H := hP
          have hD : va_D (va_A (cM T x1 A I1 F) s.heap.size) (cM T x1 A (upd I1 17 2) F) := hD
          subst hw
          refine gtop (y := 1) (by decide) ?_
          refine lv_if_eq (tgt := 67) hx hb dX3_redeem_62 (by decide) (fun c62 => ?_) (fun c62 => ?_)
          · exact absurd c62 (by decide)
          · skip
            refine lv_iconst (v := 0) hx hb dX3_redeem_65 (by decide) ?_
            exact W.iret (v := 0) hx hb hr (fun t ht9 hW => ⟨⟨0, (), rfl, (if_neg (by simp [cRedeem, c16, c51, c62, t6, t43])).symm, gBi ht9 (gfin hP (mfinF (by simp [cRedeem, c16, c51, c62, t6, t43]) (congrArg (upd I1 17) (by simp [w13, cRedeem, c16, c51, c62, t6, t43])) rfl))⟩, hS.F ht9⟩) hS.2.2 dX3_redeem_66
        · exact absurd c51 (by decide)
      · exact absurd c43 c6
    · skip
      obtain ⟨e1a, e1b⟩ := ho c16
      refine lv_aload_n hx hb dX3_redeem_19 rfl (lv_at hl 1 rfl) ?_
      refine va_get (D := G) (ci := 3) (v := .ref (A 2)) (C := RX3) (T := TX3) (N := 18) hx hb hts hiRX3 hown hK hP 0 rfl rfl 2 (by decide) (hts (.fieldLink RX3 7 "NameAuctionModel" "funds" "[I") (by decide +kernel)) (fun _ h9 => h9) rfl dX3_redeem_20 ?_
      refine lv_aload_n hx hb dX3_redeem_23 rfl (lv_at hl 1 rfl) ?_
      refine va_get (D := G) (ci := 3) (v := .ref (A 4)) (C := RX3) (T := TX3) (N := 18) hx hb hts hiRX3 hown hK hP 0 rfl rfl 4 (by decide) (hts (.fieldLink RX3 16 "NameAuctionModel" "owner" "[I") (by decide +kernel)) (fun _ h9 => h9) rfl dX3_redeem_24 ?_
      refine lv_iload_n hx hb dX3_redeem_27 rfl (lv_at hl 2 rfl) ?_
      refine giald (j := j) hx hb hK hP 3 0 rfl rfl (show (nI j : Int32) = nI j from rfl) (by omega) (by decide) dX3_redeem_28 ?_
      refine gtop (y := nI o) e1a ?_
      refine giald (j := o) hx hb hK hP 1 0 rfl rfl (show (nI o : Int32) = nI o from rfl) (by omega) (by decide) dX3_redeem_29 ?_
      refine lv_bipush (v := 50) hx hb dX3_redeem_30 (by decide) ?_
      refine lv_icmp_lt (tgt := 39) hx hb dX3_redeem_32 (by decide) (fun c32 => ?_) (fun c32 => ?_)
      · skip
        refine lv_iconst (v := 0) hx hb dX3_redeem_39 (by decide) ?_
        refine lv_istore_n (lv' := [(3, .int 0), (2, .int (bI (okI p0 16))), (0, .ref x1), (1, .int (nI j))]) hx hb dX3_redeem_40 rfl hl (by decide) rfl (fun ls hl => ?_)
        refine lv_aload_n hx hb dX3_redeem_41 rfl (lv_at hl 2 rfl) ?_
        refine lv_iload_n hx hb dX3_redeem_42 rfl (lv_at hl 1 rfl) ?_
        refine lv_if_ne (tgt := 50) hx hb dX3_redeem_43 (by decide) (fun c43 => ?_) (fun c43 => ?_)
        · skip
          have t43 : (okI p0 16) = true := bI_t c43
          refine lv_iload_n hx hb dX3_redeem_50 rfl (lv_at hl 0 rfl) ?_
          refine lv_if_eq (tgt := 58) hx hb dX3_redeem_51 (by decide) (fun c51 => ?_) (fun c51 => ?_)
          · skip
            refine lv_iconst (v := 2) hx hb dX3_redeem_58 (by decide) ?_
            refine gciT (X := ([] : va_W)) (va_runV (As := [.int 2]) (rest := []) ⟨hx, hb, hml, hown, hts⟩ (kX3_fails l G T x1 A I1 F 2 _) (cwV 1 hts gX3_redeem_X3_fails rfl rfl rfl (by decide +kernel) ⟨Nat.le_of_ble_eq_true rfl, Nat.le_of_ble_eq_true rfl⟩) ⟨gblind, va_recv hK hP (ci := 3) (q0 := 0) rfl rfl, gpreT (X := ([] : va_W)) hE hK hP hD hS hA⟩ rfl rfl hl.1 rfl (lv_room (Nat.le_of_ble_eq_true rfl)) dX3_redeem_59 ⟨Nat.le_of_ble_eq_true rfl, Nat.le_of_ble_eq_true rfl⟩) hP hD hS hA cM_fst (fun r9 H locs hw hP hD hS => ?_)
            have hP : va_P G vwCl (cM T x1 A (upd I1 17 2) F) H := hP
            have hD : va_D (va_A (cM T x1 A I1 F) s.heap.size) (cM T x1 A (upd I1 17 2) F) := hD
            subst hw
            refine gtop (y := 1) (by decide) ?_
            refine lv_if_eq (tgt := 67) hx hb dX3_redeem_62 (by decide) (fun c62 => ?_) (fun c62 => ?_)
            · exact absurd c62 (by decide)
            · skip
              refine lv_iconst (v := 0) hx hb dX3_redeem_65 (by decide) ?_
              exact W.iret (v := 0) hx hb hr (fun t ht9 hW => ⟨⟨0, (), rfl, (if_neg (by simp [cRedeem, c16, c32, c51, c62, t6, t43])).symm, gBi ht9 (gfin hP (mfinF (by simp [cRedeem, c16, c32, c51, c62, t6, t43]) (congrArg (upd I1 17) (by simp [w13, cRedeem, c16, c32, c51, c62, t6, t43])) rfl))⟩, hS.F ht9⟩) hS.2.2 dX3_redeem_66
          · exact absurd c51 (by decide)
        · exact absurd c43 c6
      · skip
        refine lv_iconst (v := 1) hx hb dX3_redeem_35 (by decide) ?_
        refine lv_goto (tgt := 40) hx hb dX3_redeem_36 (by decide) ?_
        refine lv_istore_n (lv' := [(3, .int 1), (2, .int (bI (okI p0 16))), (0, .ref x1), (1, .int (nI j))]) hx hb dX3_redeem_40 rfl hl (by decide) rfl (fun ls hl => ?_)
        refine lv_aload_n hx hb dX3_redeem_41 rfl (lv_at hl 2 rfl) ?_
        refine lv_iload_n hx hb dX3_redeem_42 rfl (lv_at hl 1 rfl) ?_
        refine lv_if_ne (tgt := 50) hx hb dX3_redeem_43 (by decide) (fun c43 => ?_) (fun c43 => ?_)
        · skip
          have t43 : (okI p0 16) = true := bI_t c43
          refine lv_iload_n hx hb dX3_redeem_50 rfl (lv_at hl 0 rfl) ?_
          refine lv_if_eq (tgt := 58) hx hb dX3_redeem_51 (by decide) (fun c51 => ?_) (fun c51 => ?_)
          · exact absurd c51 (by decide)
          · skip
            refine lv_iconst (v := 0) hx hb dX3_redeem_54 (by decide) ?_
            refine lv_goto (tgt := 59) hx hb dX3_redeem_55 (by decide) ?_
            refine gciT (X := ([] : va_W)) (va_runV (As := [.int 0]) (rest := []) ⟨hx, hb, hml, hown, hts⟩ (kX3_fails l G T x1 A I1 F 0 _) (cwV 1 hts gX3_redeem_X3_fails rfl rfl rfl (by decide +kernel) ⟨Nat.le_of_ble_eq_true rfl, Nat.le_of_ble_eq_true rfl⟩) ⟨gblind, va_recv hK hP (ci := 3) (q0 := 0) rfl rfl, gpreT (X := ([] : va_W)) hE hK hP hD hS hA⟩ rfl rfl hl.1 rfl (lv_room (Nat.le_of_ble_eq_true rfl)) dX3_redeem_59 ⟨Nat.le_of_ble_eq_true rfl, Nat.le_of_ble_eq_true rfl⟩) hP hD hS hA cM_fst (fun r9 H locs hw hP hD hS => ?_)
            have hP : va_P G vwCl (cM T x1 A (upd I1 17 0) F) H := hP
            have hD : va_D (va_A (cM T x1 A I1 F) s.heap.size) (cM T x1 A (upd I1 17 0) F) := hD
            subst hw
            refine gtop (y := 0) (by decide) ?_
            refine lv_if_eq (tgt := 67) hx hb dX3_redeem_62 (by decide) (fun c62 => ?_) (fun c62 => ?_)
            · skip
              refine lv_aload_n hx hb dX3_redeem_67 rfl (lv_at hl 2 rfl) ?_
              refine lv_aload_n hx hb dX3_redeem_68 rfl (lv_at hl 2 rfl) ?_
              refine va_get (D := G) (ci := 3) (v := .ref (A 4)) (C := RX3) (T := TX3) (N := 18) hx hb hts hiRX3 hown hK hP 0 rfl rfl 4 (by decide) (hts (.fieldLink RX3 16 "NameAuctionModel" "owner" "[I") (by decide +kernel)) (fun _ h9 => h9) rfl dX3_redeem_69 ?_
              refine lv_iload_n hx hb dX3_redeem_72 rfl (lv_at hl 3 rfl) ?_
              refine giald (j := j) hx hb hK hP 3 0 rfl rfl (show (nI j : Int32) = nI j from rfl) (by omega) (by decide) dX3_redeem_73 ?_
              refine gtop (y := nI o) e1a ?_
              refine lv_bipush (v := 50) hx hb dX3_redeem_74 (by decide) ?_
              refine gcvT (X := ([] : va_W)) (va_runV (As := [.int (nI o), .int 50]) (rest := []) ⟨hx, hb, hml, hown, hts⟩ (kX3_pays l G T x1 A (upd I1 17 0) F o 50 _ (by omega)) (cwV 2 hts gX3_redeem_X3_pays rfl rfl rfl (by decide +kernel) ⟨Nat.le_of_ble_eq_true rfl, Nat.le_of_ble_eq_true rfl⟩) ⟨gblind, va_recv hK hP (ci := 3) (q0 := 0) rfl rfl, gpreT (X := ([] : va_W)) hE hK hP hD hS hA⟩ rfl rfl hl.1 rfl (lv_room (Nat.le_of_ble_eq_true rfl)) dX3_redeem_76 ⟨Nat.le_of_ble_eq_true rfl, Nat.le_of_ble_eq_true rfl⟩) hP hD hS hA cM_fst (fun H locs hw hP hD hS => ?_)
              have hP : va_P G vwCl (cM T x1 A (upd (upd I1 17 0) 1 ((upd I1 17 0) 1 + 50)) (mPayF F o 50)) H := hP
              have hD : va_D (va_A (cM T x1 A I1 F) s.heap.size) (cM T x1 A (upd (upd I1 17 0) 1 ((upd I1 17 0) 1 + 50)) (mPayF F o 50)) := hD
              refine lv_aload_n hx hb dX3_redeem_79 rfl (lv_at hl 2 rfl) ?_
              refine lv_iload_n hx hb dX3_redeem_80 rfl (lv_at hl 3 rfl) ?_
              refine lv_aload_n hx hb dX3_redeem_81 rfl (lv_at hl 2 rfl) ?_
              refine va_get (D := G) (ci := 3) (v := .ref (A 4)) (C := RX3) (T := TX3) (N := 18) hx hb hts hiRX3 hown hK hP 0 rfl rfl 4 (by decide) (hts (.fieldLink RX3 16 "NameAuctionModel" "owner" "[I") (by decide +kernel)) (fun _ h9 => h9) rfl dX3_redeem_82 ?_
              refine lv_iload_n hx hb dX3_redeem_85 rfl (lv_at hl 3 rfl) ?_
              refine giald (j := j) hx hb hK hP 3 0 rfl rfl (show (nI j : Int32) = nI j from rfl) (by omega) (by decide) dX3_redeem_86 ?_
              refine gcvT (X := ([] : va_W)) (va_runV (As := [.int (nI j), .int (((mPayF F o 50) 4) j)]) (rest := []) ⟨hx, hb, hml, hown, hts⟩ (kX3_leases l G T x1 A (upd (upd I1 17 0) 1 ((upd I1 17 0) 1 + 50)) (mPayF F o 50) j (((mPayF F o 50) 4) j) _ (by omega)) (cwV 2 hts gX3_redeem_X3_leases rfl rfl rfl (by decide +kernel) ⟨Nat.le_of_ble_eq_true rfl, Nat.le_of_ble_eq_true rfl⟩) ⟨gblind, va_recv hK hP (ci := 3) (q0 := 0) rfl rfl, gpreT (X := ([] : va_W)) hE hK hP hD hS hA⟩ rfl rfl hl.1 rfl (lv_room (Nat.le_of_ble_eq_true rfl)) dX3_redeem_87 ⟨Nat.le_of_ble_eq_true rfl, Nat.le_of_ble_eq_true rfl⟩) hP hD hS hA cM_fst (fun H locs hw hP hD hS => ?_)
              have hP : va_P G vwCl (cM T x1 A (upd (upd I1 17 0) 1 ((upd I1 17 0) 1 + 50)) (mLease (mPayF F o 50) j (((mPayF F o 50) 4) j) ((upd (upd I1 17 0) 1 ((upd I1 17 0) 1 + 50)) 0))) H := hP
              have hD : va_D (va_A (cM T x1 A I1 F) s.heap.size) (cM T x1 A (upd (upd I1 17 0) 1 ((upd I1 17 0) 1 + 50)) (mLease (mPayF F o 50) j (((mPayF F o 50) 4) j) ((upd (upd I1 17 0) 1 ((upd I1 17 0) 1 + 50)) 0))) := hD
              refine lv_aload_n hx hb dX3_redeem_90 rfl (lv_at hl 2 rfl) ?_
              refine va_get (D := G) (ci := 3) (v := .ref (A 5)) (C := RX3) (T := TX3) (N := 18) hx hb hts hiRX3 hown hK hP 0 rfl rfl 5 (by decide) (hts (.fieldLink RX3 19 "NameAuctionModel" "day" "[I") (by decide +kernel)) (fun _ h9 => h9) rfl dX3_redeem_91 ?_
              refine lv_iload_n hx hb dX3_redeem_94 rfl (lv_at hl 3 rfl) ?_
              refine giald (j := j) hx hb hK hP 4 0 rfl rfl (show (nI j : Int32) = nI j from rfl) (by omega) (by decide) dX3_redeem_95 ?_
              exact W.iret (v := ((mLease (mPayF F o 50) j (((mPayF F o 50) 4) j) ((upd (upd I1 17 0) 1 ((upd I1 17 0) 1 + 50)) 0)) 5) j) hx hb hr (fun t ht9 hW => ⟨⟨((mLease (mPayF F o 50) j (((mPayF F o 50) 4) j) ((upd (upd I1 17 0) 1 ((upd I1 17 0) 1 + 50)) 0)) 5) j, (), rfl, (show (((mLease (mPayF F o 50) j (((mPayF F o 50) 4) j) ((upd (upd I1 17 0) 1 ((upd I1 17 0) 1 + 50)) 0)) 5) j) = (I1 0 + 100) from by simp [mLease, mPayF, upd, updA]).trans (if_pos (show (cRedeem F j o p0) = 0 by simp [cRedeem, c16, c32, c51, c62, t6, t43])).symm, gBi ht9 (gfin hP (mfinT (by simp [cRedeem, c16, c32, c51, c62, t6, t43]) (rfl) (rfl)))⟩, hS.F ht9⟩) hS.2.2 dX3_redeem_96
            · exact absurd c62 (by decide)
        · exact absurd c43 c6
abbrev PX3_setRecord (G : va_G) (T : Nat → ClassId) (x1 : Nat) (A : Nat → Nat) (I1 : Nat → Int32) (F : Nat → Nat → Int32) (j : Nat) (p0 p1 p2 : Int32) (sz : Nat) : Array Value → State → Prop := gPc G T [.ref x1, .int p0, .int p1, .int p2] (cM T x1 A I1 F) sz
abbrev QX3_setRecord (G : va_G) (T : Nat → ClassId) (x1 : Nat) (A : Nat → Nat) (I1 : Nat → Int32) (F : Nat → Nat → Int32) (j : Nat) (p0 p1 p2 : Int32) (sz : Nat) : Array Value → State → Outcome → State → Prop := va_Qi (fun (r : Int32) (_ : Unit) => r = if (cSetRec F j p0 p1 p2) = 0 then F 6 j else 0) (gB G (cM T x1 A (if (cSetRec F j p0 p1 p2) = 0 then (upd I1 17 0) else upd I1 17 (w3 (cSetRec F j p0 p1 p2))) (if (cSetRec F j p0 p1 p2) = 0 then (updA (updA F 6 (upd (F 6) j p1)) 7 (upd (F 7) j p2)) else F))) (va_A (cM T x1 A I1 F) sz)
set_option maxHeartbeats 4000000 in
set_option maxRecDepth 100000 in
theorem kX3_setRecord (l : Launch) (G : va_G) (T : Nat → ClassId) (x1 : Nat) (A : Nat → Nat) (I1 : Nat → Int32) (F : Nat → Nat → Int32) (j : Nat) (p0 p1 p2 : Int32) (sz : Nat) (hj : okI p0 16 = true → p0 = nI j ∧ j < 16) : Met l yX3_setRecord wsX3_setRecord ({ frames := 2, cells := 0, slots := 0, locals := 42 } : Room) (PX3_setRecord G T x1 A I1 F j p0 p1 p2 sz) (QX3_setRecord G T x1 A I1 F j p0 p1 p2 sz) 0 0 (va_A (cM T x1 A I1 F) sz) := by
  refine Met.ofW (cc := cX3_setRecord) (maxL := 7) (ret := (some .int)) (by decide) rfl ?_
  intro p e s m args below meth c s₁ B hml hv
  obtain ⟨rfl, hsz, hP, hK, hD0, hE⟩ := hv
  have hx := B.exec
  have hb := B.bytes
  have hr := B.returns
  have hts := atoms_spec (ws := wsX3_setRecord) B.pre
  have hown : s.vm.findClass RX3 = some m.cls := findClass_of_methodNamed B.named
  have hlocks := B.notSynchronized
  subst hsz
  have hD := hD0.self (sz := s.heap.size)
  have hA : ∀ q : Nat, s.heap.size ≤ q → (va_A (cM T x1 A I1 F) s.heap.size) q := fun q h => Or.inr h
  have hS : va_S (va_A (cM T x1 A I1 F) s.heap.size) s.heap s.heap [] := va_S.rf
  have hiRX3 : ∀ w ∈ u_ws RX3 TX3 18, w ∈ wsX3_setRecord := by decide +kernel
  have hl := lv_entry ([.ref x1, .int p0, .int p1, .int p2]) (n := 7) (Nat.le_of_ble_eq_true rfl)
  rw [lg_entry_eq]
  generalize (lg_sl ([.ref x1, .int p0, .int p1, .int p2]) ++ List.replicate (7 - (lg_sl ([.ref x1, .int p0, .int p1, .int p2])).length) Slot.unset).toArray = ls at hl ⊢
  have hl : lv_has ls 7 [(0, .ref x1), (1, .int p0), (2, .int p1), (3, .int p2)] := hl
  have hP : va_P G vwCl (cM T x1 A I1 F) s.heap := hP
  refine lv_iload_n hx hb dX3_setRecord_0 rfl (lv_at hl 1 rfl) ?_
  refine gci (va_runS (As := [.int p0]) (rest := []) ⟨hx, hb, hml, hown, hts⟩ (kX3_isName l G T p0 _) (va_cwS 1 hts gX3_setRecord_X3_isName rfl rfl rfl (by decide +kernel) ⟨Nat.le_of_ble_eq_true rfl, Nat.le_of_ble_eq_true rfl⟩) ⟨gblind, gpre hE hK hP hD hS hA [] rfl rfl⟩ rfl rfl hl.1 rfl (lv_room (Nat.le_of_ble_eq_true rfl)) dX3_setRecord_1 ⟨Nat.le_of_ble_eq_true rfl, Nat.le_of_ble_eq_true rfl⟩) hP hD hS hA [] rfl rfl (fun r9 H locs hw hP hD hS => ?_)
  have hP : va_P G vwCl (cM T x1 A I1 F) H := hP
  have hD : va_D (va_A (cM T x1 A I1 F) s.heap.size) (cM T x1 A I1 F) := hD
  subst hw
  refine lv_istore (lv' := [(4, .int (bI (okI p0 16))), (0, .ref x1), (1, .int p0), (2, .int p1), (3, .int p2)]) hx hb dX3_setRecord_4 hl (by decide) rfl (fun ls hl => ?_)
  refine lv_iload_n hx hb dX3_setRecord_6 rfl (lv_at hl 3 rfl) ?_
  refine lv_iconst (v := 0) hx hb dX3_setRecord_7 (by decide) ?_
  refine lv_sipush (v := 999) hx hb dX3_setRecord_8 (by decide) ?_
  refine gci (va_runS (As := [.int p1, .int 0, .int 999]) (rest := []) ⟨hx, hb, hml, hown, hts⟩ (kX3_isIn l G T p1 0 999 _) (va_cwS 3 hts gX3_setRecord_X3_isIn rfl rfl rfl (by decide +kernel) ⟨Nat.le_of_ble_eq_true rfl, Nat.le_of_ble_eq_true rfl⟩) ⟨gblind, gpre hE hK hP hD hS hA [] rfl rfl⟩ rfl rfl hl.1 rfl (lv_room (Nat.le_of_ble_eq_true rfl)) dX3_setRecord_11 ⟨Nat.le_of_ble_eq_true rfl, Nat.le_of_ble_eq_true rfl⟩) hP hD hS hA [] rfl rfl (fun r9 H locs hw hP hD hS => ?_)
  have hP : va_P G vwCl (cM T x1 A I1 F) H := hP
  have hD : va_D (va_A (cM T x1 A I1 F) s.heap.size) (cM T x1 A I1 F) := hD
  subst hw
  refine lv_if_eq (tgt := 31) hx hb dX3_setRecord_14 (by decide) (fun c14 => ?_) (fun c14 => ?_)
  · skip
    have t14 : (okR p1 0 999) = false := bI_f c14
    refine lv_iconst (v := 0) hx hb dX3_setRecord_31 (by decide) ?_
    refine lv_istore (lv' := [(5, .int 0), (4, .int (bI (okI p0 16))), (0, .ref x1), (1, .int p0), (2, .int p1), (3, .int p2)]) hx hb dX3_setRecord_32 hl (by decide) rfl (fun ls hl => ?_)
    refine lv_aload_n hx hb dX3_setRecord_34 rfl (lv_at hl 2 rfl) ?_
    refine lv_iload hx hb dX3_setRecord_35 (lv_at hl 1 rfl) ?_
    refine lv_if_ne (tgt := 44) hx hb dX3_setRecord_37 (by decide) (fun c37 => ?_) (fun c37 => ?_)
    · skip
      have t37 : (okI p0 16) = true := bI_t c37
      have e0 := hj t37
      obtain ⟨e0a, e0b⟩ := e0
      rw [show Value.int p0 = Value.int (nI j) from congrArg Value.int e0a] at hl
      refine lv_iload hx hb dX3_setRecord_44 (lv_at hl 0 rfl) ?_
      refine lv_if_ne (tgt := 53) hx hb dX3_setRecord_46 (by decide) (fun c46 => ?_) (fun c46 => ?_)
      · exact absurd c46 (by decide)
      · skip
        refine lv_iconst (v := 2) hx hb dX3_setRecord_49 (by decide) ?_
        refine lv_goto (tgt := 68) hx hb dX3_setRecord_50 (by decide) ?_
        refine gciT (X := ([] : va_W)) (va_runV (As := [.int 2]) (rest := []) ⟨hx, hb, hml, hown, hts⟩ (kX3_fails l G T x1 A I1 F 2 _) (cwV 1 hts gX3_setRecord_X3_fails rfl rfl rfl (by decide +kernel) ⟨Nat.le_of_ble_eq_true rfl, Nat.le_of_ble_eq_true rfl⟩) ⟨gblind, va_recv hK hP (ci := 3) (q0 := 0) rfl rfl, gpreT (X := ([] : va_W)) hE hK hP hD hS hA⟩ rfl rfl hl.1 rfl (lv_room (Nat.le_of_ble_eq_true rfl)) dX3_setRecord_68 ⟨Nat.le_of_ble_eq_true rfl, Nat.le_of_ble_eq_true rfl⟩) hP hD hS hA cM_fst (fun r9 H locs hw hP hD hS => ?_)
        have hP : va_P G vwCl (cM T x1 A (upd I1 17 2) F) H := hP
        have hD : va_D (va_A (cM T x1 A I1 F) s.heap.size) (cM T x1 A (upd I1 17 2) F) := hD
        subst hw
        refine gtop (y := 1) (by decide) ?_
        refine lv_if_eq (tgt := 76) hx hb dX3_setRecord_71 (by decide) (fun c71 => ?_) (fun c71 => ?_)
        · exact absurd c71 (by decide)
        · skip
          refine lv_iconst (v := 0) hx hb dX3_setRecord_74 (by decide) ?_
          exact W.iret (v := 0) hx hb hr (fun t ht9 hW => ⟨⟨0, (), rfl, (if_neg (by simp [cSetRec, c46, c71, t14, t37])).symm, gBi ht9 (gfin hP (mfinF (by simp [cSetRec, c46, c71, t14, t37]) (congrArg (upd I1 17) (by simp [w3, cSetRec, c46, c71, t14, t37])) rfl))⟩, hS.F ht9⟩) hS.2.2 dX3_setRecord_75
    · skip
      have t37 : (okI p0 16) = false := bI_f c37
      refine lv_iconst (v := 1) hx hb dX3_setRecord_40 (by decide) ?_
      refine lv_goto (tgt := 68) hx hb dX3_setRecord_41 (by decide) ?_
      refine gciT (X := ([] : va_W)) (va_runV (As := [.int 1]) (rest := []) ⟨hx, hb, hml, hown, hts⟩ (kX3_fails l G T x1 A I1 F 1 _) (cwV 1 hts gX3_setRecord_X3_fails rfl rfl rfl (by decide +kernel) ⟨Nat.le_of_ble_eq_true rfl, Nat.le_of_ble_eq_true rfl⟩) ⟨gblind, va_recv hK hP (ci := 3) (q0 := 0) rfl rfl, gpreT (X := ([] : va_W)) hE hK hP hD hS hA⟩ rfl rfl hl.1 rfl (lv_room (Nat.le_of_ble_eq_true rfl)) dX3_setRecord_68 ⟨Nat.le_of_ble_eq_true rfl, Nat.le_of_ble_eq_true rfl⟩) hP hD hS hA cM_fst (fun r9 H locs hw hP hD hS => ?_)
      have hP : va_P G vwCl (cM T x1 A (upd I1 17 1) F) H := hP
      have hD : va_D (va_A (cM T x1 A I1 F) s.heap.size) (cM T x1 A (upd I1 17 1) F) := hD
      subst hw
      refine gtop (y := 1) (by decide) ?_
      refine lv_if_eq (tgt := 76) hx hb dX3_setRecord_71 (by decide) (fun c71 => ?_) (fun c71 => ?_)
      · exact absurd c71 (by decide)
      · skip
        refine lv_iconst (v := 0) hx hb dX3_setRecord_74 (by decide) ?_
        exact W.iret (v := 0) hx hb hr (fun t ht9 hW => ⟨⟨0, (), rfl, (if_neg (by simp [cSetRec, c71, t14, t37])).symm, gBi ht9 (gfin hP (mfinF (by simp [cSetRec, c71, t14, t37]) (congrArg (upd I1 17) (by simp [w3, cSetRec, c71, t14, t37])) rfl))⟩, hS.F ht9⟩) hS.2.2 dX3_setRecord_75
  · skip
    have t14 : (okR p1 0 999) = true := bI_t c14
    refine lv_iload_n hx hb dX3_setRecord_17 rfl (lv_at hl 4 rfl) ?_
    refine lv_iconst (v := 1) hx hb dX3_setRecord_18 (by decide) ?_
    refine lv_bipush (v := 50) hx hb dX3_setRecord_19 (by decide) ?_
    refine gci (va_runS (As := [.int p2, .int 1, .int 50]) (rest := []) ⟨hx, hb, hml, hown, hts⟩ (kX3_isIn l G T p2 1 50 _) (va_cwS 3 hts gX3_setRecord_X3_isIn rfl rfl rfl (by decide +kernel) ⟨Nat.le_of_ble_eq_true rfl, Nat.le_of_ble_eq_true rfl⟩) ⟨gblind, gpre hE hK hP hD hS hA [] rfl rfl⟩ rfl rfl hl.1 rfl (lv_room (Nat.le_of_ble_eq_true rfl)) dX3_setRecord_21 ⟨Nat.le_of_ble_eq_true rfl, Nat.le_of_ble_eq_true rfl⟩) hP hD hS hA [] rfl rfl (fun r9 H locs hw hP hD hS => ?_)
    have hP : va_P G vwCl (cM T x1 A I1 F) H := hP
    have hD : va_D (va_A (cM T x1 A I1 F) s.heap.size) (cM T x1 A I1 F) := hD
    subst hw
    refine lv_if_eq (tgt := 31) hx hb dX3_setRecord_24 (by decide) (fun c24 => ?_) (fun c24 => ?_)
    · skip
      have t24 : (okR p2 1 50) = false := bI_f c24
      refine lv_iconst (v := 0) hx hb dX3_setRecord_31 (by decide) ?_
      refine lv_istore (lv' := [(5, .int 0), (4, .int (bI (okI p0 16))), (0, .ref x1), (1, .int p0), (2, .int p1), (3, .int p2)]) hx hb dX3_setRecord_32 hl (by decide) rfl (fun ls hl => ?_)
      refine lv_aload_n hx hb dX3_setRecord_34 rfl (lv_at hl 2 rfl) ?_
      refine lv_iload hx hb dX3_setRecord_35 (lv_at hl 1 rfl) ?_
      refine lv_if_ne (tgt := 44) hx hb dX3_setRecord_37 (by decide) (fun c37 => ?_) (fun c37 => ?_)
      · skip
        have t37 : (okI p0 16) = true := bI_t c37
        have e0 := hj t37
        obtain ⟨e0a, e0b⟩ := e0
        rw [show Value.int p0 = Value.int (nI j) from congrArg Value.int e0a] at hl
        refine lv_iload hx hb dX3_setRecord_44 (lv_at hl 0 rfl) ?_
        refine lv_if_ne (tgt := 53) hx hb dX3_setRecord_46 (by decide) (fun c46 => ?_) (fun c46 => ?_)
        · exact absurd c46 (by decide)
        · skip
          refine lv_iconst (v := 2) hx hb dX3_setRecord_49 (by decide) ?_
          refine lv_goto (tgt := 68) hx hb dX3_setRecord_50 (by decide) ?_
          refine gciT (X := ([] : va_W)) (va_runV (As := [.int 2]) (rest := []) ⟨hx, hb, hml, hown, hts⟩ (kX3_fails l G T x1 A I1 F 2 _) (cwV 1 hts gX3_setRecord_X3_fails rfl rfl rfl (by decide +kernel) ⟨Nat.le_of_ble_eq_true rfl, Nat.le_of_ble_eq_true rfl⟩) ⟨gblind, va_recv hK hP (ci := 3) (q0 := 0) rfl rfl, gpreT (X := ([] : va_W)) hE hK hP hD hS hA⟩ rfl rfl hl.1 rfl (lv_room (Nat.le_of_ble_eq_true rfl)) dX3_setRecord_68 ⟨Nat.le_of_ble_eq_true rfl, Nat.le_of_ble_eq_true rfl⟩) hP hD hS hA cM_fst (fun r9 H locs hw hP hD hS => ?_)
          have hP : va_P G vwCl (cM T x1 A (upd I1 17 2) F) H := hP
          have hD : va_D (va_A (cM T x1 A I1 F) s.heap.size) (cM T x1 A (upd I1 17 2) F) := hD
          subst hw
          refine gtop (y := 1) (by decide) ?_
          refine lv_if_eq (tgt := 76) hx hb dX3_setRecord_71 (by decide) (fun c71 => ?_) (fun c71 => ?_)
          · exact absurd c71 (by decide)
          · skip
            refine lv_iconst (v := 0) hx hb dX3_setRecord_74 (by decide) ?_
            exact W.iret (v := 0) hx hb hr (fun t ht9 hW => ⟨⟨0, (), rfl, (if_neg (by simp [cSetRec, c46, c71, t14, t24, t37])).symm, gBi ht9 (gfin hP (mfinF (by simp [cSetRec, c46, c71, t14, t24, t37]) (congrArg (upd I1 17) (by simp [w3, cSetRec, c46, c71, t14, t24, t37])) rfl))⟩, hS.F ht9⟩) hS.2.2 dX3_setRecord_75
      · skip
        have t37 : (okI p0 16) = false := bI_f c37
        refine lv_iconst (v := 1) hx hb dX3_setRecord_40 (by decide) ?_
        refine lv_goto (tgt := 68) hx hb dX3_setRecord_41 (by decide) ?_
        refine gciT (X := ([] : va_W)) (va_runV (As := [.int 1]) (rest := []) ⟨hx, hb, hml, hown, hts⟩ (kX3_fails l G T x1 A I1 F 1 _) (cwV 1 hts gX3_setRecord_X3_fails rfl rfl rfl (by decide +kernel) ⟨Nat.le_of_ble_eq_true rfl, Nat.le_of_ble_eq_true rfl⟩) ⟨gblind, va_recv hK hP (ci := 3) (q0 := 0) rfl rfl, gpreT (X := ([] : va_W)) hE hK hP hD hS hA⟩ rfl rfl hl.1 rfl (lv_room (Nat.le_of_ble_eq_true rfl)) dX3_setRecord_68 ⟨Nat.le_of_ble_eq_true rfl, Nat.le_of_ble_eq_true rfl⟩) hP hD hS hA cM_fst (fun r9 H locs hw hP hD hS => ?_)
        have hP : va_P G vwCl (cM T x1 A (upd I1 17 1) F) H := hP
        have hD : va_D (va_A (cM T x1 A I1 F) s.heap.size) (cM T x1 A (upd I1 17 1) F) := hD
        subst hw
        refine gtop (y := 1) (by decide) ?_
        refine lv_if_eq (tgt := 76) hx hb dX3_setRecord_71 (by decide) (fun c71 => ?_) (fun c71 => ?_)
        · exact absurd c71 (by decide)
        · skip
          refine lv_iconst (v := 0) hx hb dX3_setRecord_74 (by decide) ?_
          exact W.iret (v := 0) hx hb hr (fun t ht9 hW => ⟨⟨0, (), rfl, (if_neg (by simp [cSetRec, c71, t14, t24, t37])).symm, gBi ht9 (gfin hP (mfinF (by simp [cSetRec, c71, t14, t24, t37]) (congrArg (upd I1 17) (by simp [w3, cSetRec, c71, t14, t24, t37])) rfl))⟩, hS.F ht9⟩) hS.2.2 dX3_setRecord_75
    · skip
      have t24 : (okR p2 1 50) = true := bI_t c24
      refine lv_iconst (v := 1) hx hb dX3_setRecord_27 (by decide) ?_
      refine lv_goto (tgt := 32) hx hb dX3_setRecord_28 (by decide) ?_
      refine lv_istore (lv' := [(5, .int 1), (4, .int (bI (okI p0 16))), (0, .ref x1), (1, .int p0), (2, .int p1), (3, .int p2)]) hx hb dX3_setRecord_32 hl (by decide) rfl (fun ls hl => ?_)
      refine lv_aload_n hx hb dX3_setRecord_34 rfl (lv_at hl 2 rfl) ?_
      refine lv_iload hx hb dX3_setRecord_35 (lv_at hl 1 rfl) ?_
      refine lv_if_ne (tgt := 44) hx hb dX3_setRecord_37 (by decide) (fun c37 => ?_) (fun c37 => ?_)
      · skip
        have t37 : (okI p0 16) = true := bI_t c37
        have e0 := hj t37
        obtain ⟨e0a, e0b⟩ := e0
        rw [show Value.int p0 = Value.int (nI j) from congrArg Value.int e0a] at hl
        refine lv_iload hx hb dX3_setRecord_44 (lv_at hl 0 rfl) ?_
        refine lv_if_ne (tgt := 53) hx hb dX3_setRecord_46 (by decide) (fun c46 => ?_) (fun c46 => ?_)
        · skip
          refine lv_aload_n hx hb dX3_setRecord_53 rfl (lv_at hl 2 rfl) ?_
          refine va_get (D := G) (ci := 3) (v := .ref (A 3)) (C := RX3) (T := TX3) (N := 18) hx hb hts hiRX3 hown hK hP 0 rfl rfl 3 (by decide) (hts (.fieldLink RX3 13 "NameAuctionModel" "state" "[I") (by decide +kernel)) (fun _ h9 => h9) rfl dX3_setRecord_54 ?_
          refine lv_iload_n hx hb dX3_setRecord_57 rfl (lv_at hl 3 rfl) ?_
          refine giald (j := j) hx hb hK hP 2 0 rfl rfl (show (nI j : Int32) = nI j from rfl) (by omega) (by decide) dX3_setRecord_58 ?_
          refine lv_iconst (v := 2) hx hb dX3_setRecord_59 (by decide) ?_
          refine lv_icmp_ne (tgt := 67) hx hb dX3_setRecord_60 (by decide) (fun c60 => ?_) (fun c60 => ?_)
          · skip
            refine lv_iconst (v := 3) hx hb dX3_setRecord_67 (by decide) ?_
            refine gciT (X := ([] : va_W)) (va_runV (As := [.int 3]) (rest := []) ⟨hx, hb, hml, hown, hts⟩ (kX3_fails l G T x1 A I1 F 3 _) (cwV 1 hts gX3_setRecord_X3_fails rfl rfl rfl (by decide +kernel) ⟨Nat.le_of_ble_eq_true rfl, Nat.le_of_ble_eq_true rfl⟩) ⟨gblind, va_recv hK hP (ci := 3) (q0 := 0) rfl rfl, gpreT (X := ([] : va_W)) hE hK hP hD hS hA⟩ rfl rfl hl.1 rfl (lv_room (Nat.le_of_ble_eq_true rfl)) dX3_setRecord_68 ⟨Nat.le_of_ble_eq_true rfl, Nat.le_of_ble_eq_true rfl⟩) hP hD hS hA cM_fst (fun r9 H locs hw hP hD hS => ?_)
            have hP : va_P G vwCl (cM T x1 A (upd I1 17 3) F) H := hP
            have hD : va_D (va_A (cM T x1 A I1 F) s.heap.size) (cM T x1 A (upd I1 17 3) F) := hD
            subst hw
            refine gtop (y := 1) (by decide) ?_
            refine lv_if_eq (tgt := 76) hx hb dX3_setRecord_71 (by decide) (fun c71 => ?_) (fun c71 => ?_)
            · exact absurd c71 (by decide)
            · skip
              refine lv_iconst (v := 0) hx hb dX3_setRecord_74 (by decide) ?_
              exact W.iret (v := 0) hx hb hr (fun t ht9 hW => ⟨⟨0, (), rfl, (if_neg (by simp [cSetRec, c46, c60, c71, t14, t24, t37])).symm, gBi ht9 (gfin hP (mfinF (by simp [cSetRec, c46, c60, c71, t14, t24, t37]) (congrArg (upd I1 17) (by simp [w3, cSetRec, c46, c60, c71, t14, t24, t37])) rfl))⟩, hS.F ht9⟩) hS.2.2 dX3_setRecord_75
          · skip
            refine lv_iconst (v := 0) hx hb dX3_setRecord_63 (by decide) ?_
            refine lv_goto (tgt := 68) hx hb dX3_setRecord_64 (by decide) ?_
            refine gciT (X := ([] : va_W)) (va_runV (As := [.int 0]) (rest := []) ⟨hx, hb, hml, hown, hts⟩ (kX3_fails l G T x1 A I1 F 0 _) (cwV 1 hts gX3_setRecord_X3_fails rfl rfl rfl (by decide +kernel) ⟨Nat.le_of_ble_eq_true rfl, Nat.le_of_ble_eq_true rfl⟩) ⟨gblind, va_recv hK hP (ci := 3) (q0 := 0) rfl rfl, gpreT (X := ([] : va_W)) hE hK hP hD hS hA⟩ rfl rfl hl.1 rfl (lv_room (Nat.le_of_ble_eq_true rfl)) dX3_setRecord_68 ⟨Nat.le_of_ble_eq_true rfl, Nat.le_of_ble_eq_true rfl⟩) hP hD hS hA cM_fst (fun r9 H locs hw hP hD hS => ?_)
            have hP : va_P G vwCl (cM T x1 A (upd I1 17 0) F) H := hP
            have hD : va_D (va_A (cM T x1 A I1 F) s.heap.size) (cM T x1 A (upd I1 17 0) F) := hD
            subst hw
            refine gtop (y := 0) (by decide) ?_
            refine lv_if_eq (tgt := 76) hx hb dX3_setRecord_71 (by decide) (fun c71 => ?_) (fun c71 => ?_)
            · skip
              refine lv_aload_n hx hb dX3_setRecord_76 rfl (lv_at hl 2 rfl) ?_
              refine va_get (D := G) (ci := 3) (v := .ref (A 6)) (C := RX3) (T := TX3) (N := 18) hx hb hts hiRX3 hown hK hP 0 rfl rfl 6 (by decide) (hts (.fieldLink RX3 22 "NameAuctionModel" "record" "[I") (by decide +kernel)) (fun _ h9 => h9) rfl dX3_setRecord_77 ?_
              refine lv_iload_n hx hb dX3_setRecord_80 rfl (lv_at hl 3 rfl) ?_
              refine giald (j := j) hx hb hK hP 5 0 rfl rfl (show (nI j : Int32) = nI j from rfl) (by omega) (by decide) dX3_setRecord_81 ?_
              refine lv_istore (lv' := [(6, .int ((F 6) j)), (5, .int 1), (4, .int (bI (okI p0 16))), (0, .ref x1), (1, .int (nI j)), (2, .int p1), (3, .int p2)]) hx hb dX3_setRecord_82 hl (by decide) rfl (fun ls hl => ?_)
              refine lv_aload_n hx hb dX3_setRecord_84 rfl (lv_at hl 3 rfl) ?_
              refine va_get (D := G) (ci := 3) (v := .ref (A 6)) (C := RX3) (T := TX3) (N := 18) hx hb hts hiRX3 hown hK hP 0 rfl rfl 6 (by decide) (hts (.fieldLink RX3 22 "NameAuctionModel" "record" "[I") (by decide +kernel)) (fun _ h9 => h9) rfl dX3_setRecord_85 ?_
              refine lv_iload_n hx hb dX3_setRecord_88 rfl (lv_at hl 4 rfl) ?_
              refine lv_iload_n hx hb dX3_setRecord_89 rfl (lv_at hl 5 rfl) ?_
              refine giast (j := j) hx hb hK hP hD hS 5 0 rfl rfl (show (nI j : Int32) = nI j from rfl) (by omega) (by decide) dX3_setRecord_90 (fun H locs hP hD hS => ?_)
              have hP : va_P G vwCl (cM T x1 A (upd I1 17 0) (updA F 6 (upd (F 6) j p1))) H := hP
              have hD : va_D (va_A (cM T x1 A I1 F) s.heap.size) (cM T x1 A (upd I1 17 0) (updA F 6 (upd (F 6) j p1))) := hD
              refine lv_aload_n hx hb dX3_setRecord_91 rfl (lv_at hl 3 rfl) ?_
              refine va_get (D := G) (ci := 3) (v := .ref (A 7)) (C := RX3) (T := TX3) (N := 18) hx hb hts hiRX3 hown hK hP 0 rfl rfl 7 (by decide) (hts (.fieldLink RX3 25 "NameAuctionModel" "lifetime" "[I") (by decide +kernel)) (fun _ h9 => h9) rfl dX3_setRecord_92 ?_
              refine lv_iload_n hx hb dX3_setRecord_95 rfl (lv_at hl 4 rfl) ?_
              refine lv_iload_n hx hb dX3_setRecord_96 rfl (lv_at hl 6 rfl) ?_
              refine giast (j := j) hx hb hK hP hD hS 6 0 rfl rfl (show (nI j : Int32) = nI j from rfl) (by omega) (by decide) dX3_setRecord_97 (fun H locs hP hD hS => ?_)
              have hP : va_P G vwCl (cM T x1 A (upd I1 17 0) (updA (updA F 6 (upd (F 6) j p1)) 7 (upd (F 7) j p2))) H := hP
              have hD : va_D (va_A (cM T x1 A I1 F) s.heap.size) (cM T x1 A (upd I1 17 0) (updA (updA F 6 (upd (F 6) j p1)) 7 (upd (F 7) j p2))) := hD
              refine lv_iload hx hb dX3_setRecord_98 (lv_at hl 0 rfl) ?_
              exact W.iret (v := (F 6) j) hx hb hr (fun t ht9 hW => ⟨⟨(F 6) j, (), rfl, (if_pos (show (cSetRec F j p0 p1 p2) = 0 by simp [cSetRec, c46, c60, c71, t14, t24, t37])).symm, gBi ht9 (gfin hP (mfinT (by simp [cSetRec, c46, c60, c71, t14, t24, t37]) (rfl) (rfl)))⟩, hS.F ht9⟩) hS.2.2 dX3_setRecord_100
            · exact absurd c71 (by decide)
        · exact absurd c46 (by decide)
      · skip
        have t37 : (okI p0 16) = false := bI_f c37
        refine lv_iconst (v := 1) hx hb dX3_setRecord_40 (by decide) ?_
        refine lv_goto (tgt := 68) hx hb dX3_setRecord_41 (by decide) ?_
        refine gciT (X := ([] : va_W)) (va_runV (As := [.int 1]) (rest := []) ⟨hx, hb, hml, hown, hts⟩ (kX3_fails l G T x1 A I1 F 1 _) (cwV 1 hts gX3_setRecord_X3_fails rfl rfl rfl (by decide +kernel) ⟨Nat.le_of_ble_eq_true rfl, Nat.le_of_ble_eq_true rfl⟩) ⟨gblind, va_recv hK hP (ci := 3) (q0 := 0) rfl rfl, gpreT (X := ([] : va_W)) hE hK hP hD hS hA⟩ rfl rfl hl.1 rfl (lv_room (Nat.le_of_ble_eq_true rfl)) dX3_setRecord_68 ⟨Nat.le_of_ble_eq_true rfl, Nat.le_of_ble_eq_true rfl⟩) hP hD hS hA cM_fst (fun r9 H locs hw hP hD hS => ?_)
        have hP : va_P G vwCl (cM T x1 A (upd I1 17 1) F) H := hP
        have hD : va_D (va_A (cM T x1 A I1 F) s.heap.size) (cM T x1 A (upd I1 17 1) F) := hD
        subst hw
        refine gtop (y := 1) (by decide) ?_
        refine lv_if_eq (tgt := 76) hx hb dX3_setRecord_71 (by decide) (fun c71 => ?_) (fun c71 => ?_)
        · exact absurd c71 (by decide)
        · skip
          refine lv_iconst (v := 0) hx hb dX3_setRecord_74 (by decide) ?_
          exact W.iret (v := 0) hx hb hr (fun t ht9 hW => ⟨⟨0, (), rfl, (if_neg (by simp [cSetRec, c71, t14, t24, t37])).symm, gBi ht9 (gfin hP (mfinF (by simp [cSetRec, c71, t14, t24, t37]) (congrArg (upd I1 17) (by simp [w3, cSetRec, c71, t14, t24, t37])) rfl))⟩, hS.F ht9⟩) hS.2.2 dX3_setRecord_75
abbrev PX3_dispute (G : va_G) (T : Nat → ClassId) (x1 : Nat) (A : Nat → Nat) (I1 : Nat → Int32) (F : Nat → Nat → Int32) (j : Nat) (p0 p1 : Int32) (sz : Nat) : Array Value → State → Prop := gPc G T [.ref x1, .int p0, .int p1] (cM T x1 A I1 F) sz
abbrev QX3_dispute (G : va_G) (T : Nat → ClassId) (x1 : Nat) (A : Nat → Nat) (I1 : Nat → Int32) (F : Nat → Nat → Int32) (j : Nat) (p0 p1 : Int32) (sz : Nat) : Array Value → State → Outcome → State → Prop := va_Qi (fun (r : Int32) (_ : Unit) => r = if (cDispute F j p0 p1) = 0 then F 3 j else 0) (gB G (cM T x1 A (if (cDispute F j p0 p1) = 0 then (upd I1 17 0) else upd I1 17 (w13 (cDispute F j p0 p1))) (if (cDispute F j p0 p1) = 0 then (mClear (updA (updA (updA (updA F 10 (upd (F 10) j (F 3 j))) 8 (upd (F 8) j p0)) 9 (upd (F 9) j (I1 0))) 3 (upd (F 3) j 5)) j) else F))) (va_A (cM T x1 A I1 F) sz)
set_option maxHeartbeats 4000000 in
set_option maxRecDepth 100000 in
theorem kX3_dispute (l : Launch) (G : va_G) (T : Nat → ClassId) (x1 : Nat) (A : Nat → Nat) (I1 : Nat → Int32) (F : Nat → Nat → Int32) (j : Nat) (p0 p1 : Int32) (sz : Nat) (hj : okI p1 16 = true → p1 = nI j ∧ j < 16) : Met l yX3_dispute wsX3_dispute ({ frames := 2, cells := 0, slots := 0, locals := 42 } : Room) (PX3_dispute G T x1 A I1 F j p0 p1 sz) (QX3_dispute G T x1 A I1 F j p0 p1 sz) 0 0 (va_A (cM T x1 A I1 F) sz) := by
  refine Met.ofW (cc := cX3_dispute) (maxL := 4) (ret := (some .int)) (by decide) rfl ?_
  intro p e s m args below meth c s₁ B hml hv
  obtain ⟨rfl, hsz, hP, hK, hD0, hE⟩ := hv
  have hx := B.exec
  have hb := B.bytes
  have hr := B.returns
  have hts := atoms_spec (ws := wsX3_dispute) B.pre
  have hown : s.vm.findClass RX3 = some m.cls := findClass_of_methodNamed B.named
  have hlocks := B.notSynchronized
  subst hsz
  have hD := hD0.self (sz := s.heap.size)
  have hA : ∀ q : Nat, s.heap.size ≤ q → (va_A (cM T x1 A I1 F) s.heap.size) q := fun q h => Or.inr h
  have hS : va_S (va_A (cM T x1 A I1 F) s.heap.size) s.heap s.heap [] := va_S.rf
  have hiRX3 : ∀ w ∈ u_ws RX3 TX3 18, w ∈ wsX3_dispute := by decide +kernel
  have hl := lv_entry ([.ref x1, .int p0, .int p1]) (n := 4) (Nat.le_of_ble_eq_true rfl)
  rw [lg_entry_eq]
  generalize (lg_sl ([.ref x1, .int p0, .int p1]) ++ List.replicate (4 - (lg_sl ([.ref x1, .int p0, .int p1])).length) Slot.unset).toArray = ls at hl ⊢
  have hl : lv_has ls 4 [(0, .ref x1), (1, .int p0), (2, .int p1)] := hl
  have hP : va_P G vwCl (cM T x1 A I1 F) s.heap := hP
  refine lv_iload_n hx hb dX3_dispute_0 rfl (lv_at hl 1 rfl) ?_
  refine gci (va_runS (As := [.int p0]) (rest := []) ⟨hx, hb, hml, hown, hts⟩ (kX3_isOwner l G T p0 _) (va_cwS 1 hts gX3_dispute_X3_isOwner rfl rfl rfl (by decide +kernel) ⟨Nat.le_of_ble_eq_true rfl, Nat.le_of_ble_eq_true rfl⟩) ⟨gblind, gpre hE hK hP hD hS hA [] rfl rfl⟩ rfl rfl hl.1 rfl (lv_room (Nat.le_of_ble_eq_true rfl)) dX3_dispute_1 ⟨Nat.le_of_ble_eq_true rfl, Nat.le_of_ble_eq_true rfl⟩) hP hD hS hA [] rfl rfl (fun r9 H locs hw hP hD hS => ?_)
  have hP : va_P G vwCl (cM T x1 A I1 F) H := hP
  have hD : va_D (va_A (cM T x1 A I1 F) s.heap.size) (cM T x1 A I1 F) := hD
  subst hw
  refine lv_if_eq (tgt := 18) hx hb dX3_dispute_4 (by decide) (fun c4 => ?_) (fun c4 => ?_)
  · skip
    have t4 : (okI p0 6) = false := bI_f c4
    refine lv_iconst (v := 0) hx hb dX3_dispute_18 (by decide) ?_
    refine lv_istore_n (lv' := [(3, .int 0), (0, .ref x1), (1, .int p0), (2, .int p1)]) hx hb dX3_dispute_19 rfl hl (by decide) rfl (fun ls hl => ?_)
    refine lv_aload_n hx hb dX3_dispute_20 rfl (lv_at hl 1 rfl) ?_
    refine lv_iload_n hx hb dX3_dispute_21 rfl (lv_at hl 0 rfl) ?_
    refine lv_if_ne (tgt := 29) hx hb dX3_dispute_22 (by decide) (fun c22 => ?_) (fun c22 => ?_)
    · exact absurd c22 (by decide)
    · skip
      refine lv_iconst (v := 1) hx hb dX3_dispute_25 (by decide) ?_
      refine lv_goto (tgt := 58) hx hb dX3_dispute_26 (by decide) ?_
      refine gciT (X := ([] : va_W)) (va_runV (As := [.int 1]) (rest := []) ⟨hx, hb, hml, hown, hts⟩ (kX3_fails l G T x1 A I1 F 1 _) (cwV 1 hts gX3_dispute_X3_fails rfl rfl rfl (by decide +kernel) ⟨Nat.le_of_ble_eq_true rfl, Nat.le_of_ble_eq_true rfl⟩) ⟨gblind, va_recv hK hP (ci := 3) (q0 := 0) rfl rfl, gpreT (X := ([] : va_W)) hE hK hP hD hS hA⟩ rfl rfl hl.1 rfl (lv_room (Nat.le_of_ble_eq_true rfl)) dX3_dispute_58 ⟨Nat.le_of_ble_eq_true rfl, Nat.le_of_ble_eq_true rfl⟩) hP hD hS hA cM_fst (fun r9 H locs hw hP hD hS => ?_)
      have hP : va_P G vwCl (cM T x1 A (upd I1 17 1) F) H := hP
      have hD : va_D (va_A (cM T x1 A I1 F) s.heap.size) (cM T x1 A (upd I1 17 1) F) := hD
      subst hw
      refine gtop (y := 1) (by decide) ?_
      refine lv_if_eq (tgt := 66) hx hb dX3_dispute_61 (by decide) (fun c61 => ?_) (fun c61 => ?_)
      · exact absurd c61 (by decide)
      · skip
        refine lv_iconst (v := 0) hx hb dX3_dispute_64 (by decide) ?_
        exact W.iret (v := 0) hx hb hr (fun t ht9 hW => ⟨⟨0, (), rfl, (if_neg (by simp [cDispute, c22, c61, t4])).symm, gBi ht9 (gfin hP (mfinF (by simp [cDispute, c22, c61, t4]) (congrArg (upd I1 17) (by simp [w13, cDispute, c22, c61, t4])) rfl))⟩, hS.F ht9⟩) hS.2.2 dX3_dispute_65
  · skip
    have t4 : (okI p0 6) = true := bI_t c4
    refine lv_iload_n hx hb dX3_dispute_7 rfl (lv_at hl 2 rfl) ?_
    refine gci (va_runS (As := [.int p1]) (rest := []) ⟨hx, hb, hml, hown, hts⟩ (kX3_isName l G T p1 _) (va_cwS 1 hts gX3_dispute_X3_isName rfl rfl rfl (by decide +kernel) ⟨Nat.le_of_ble_eq_true rfl, Nat.le_of_ble_eq_true rfl⟩) ⟨gblind, gpre hE hK hP hD hS hA [] rfl rfl⟩ rfl rfl hl.1 rfl (lv_room (Nat.le_of_ble_eq_true rfl)) dX3_dispute_8 ⟨Nat.le_of_ble_eq_true rfl, Nat.le_of_ble_eq_true rfl⟩) hP hD hS hA [] rfl rfl (fun r9 H locs hw hP hD hS => ?_)
    have hP : va_P G vwCl (cM T x1 A I1 F) H := hP
    have hD : va_D (va_A (cM T x1 A I1 F) s.heap.size) (cM T x1 A I1 F) := hD
    subst hw
    refine lv_if_eq (tgt := 18) hx hb dX3_dispute_11 (by decide) (fun c11 => ?_) (fun c11 => ?_)
    · skip
      have t11 : (okI p1 16) = false := bI_f c11
      refine lv_iconst (v := 0) hx hb dX3_dispute_18 (by decide) ?_
      refine lv_istore_n (lv' := [(3, .int 0), (0, .ref x1), (1, .int p0), (2, .int p1)]) hx hb dX3_dispute_19 rfl hl (by decide) rfl (fun ls hl => ?_)
      refine lv_aload_n hx hb dX3_dispute_20 rfl (lv_at hl 1 rfl) ?_
      refine lv_iload_n hx hb dX3_dispute_21 rfl (lv_at hl 0 rfl) ?_
      refine lv_if_ne (tgt := 29) hx hb dX3_dispute_22 (by decide) (fun c22 => ?_) (fun c22 => ?_)
      · exact absurd c22 (by decide)
      · skip
        refine lv_iconst (v := 1) hx hb dX3_dispute_25 (by decide) ?_
        refine lv_goto (tgt := 58) hx hb dX3_dispute_26 (by decide) ?_
        refine gciT (X := ([] : va_W)) (va_runV (As := [.int 1]) (rest := []) ⟨hx, hb, hml, hown, hts⟩ (kX3_fails l G T x1 A I1 F 1 _) (cwV 1 hts gX3_dispute_X3_fails rfl rfl rfl (by decide +kernel) ⟨Nat.le_of_ble_eq_true rfl, Nat.le_of_ble_eq_true rfl⟩) ⟨gblind, va_recv hK hP (ci := 3) (q0 := 0) rfl rfl, gpreT (X := ([] : va_W)) hE hK hP hD hS hA⟩ rfl rfl hl.1 rfl (lv_room (Nat.le_of_ble_eq_true rfl)) dX3_dispute_58 ⟨Nat.le_of_ble_eq_true rfl, Nat.le_of_ble_eq_true rfl⟩) hP hD hS hA cM_fst (fun r9 H locs hw hP hD hS => ?_)
        have hP : va_P G vwCl (cM T x1 A (upd I1 17 1) F) H := hP
        have hD : va_D (va_A (cM T x1 A I1 F) s.heap.size) (cM T x1 A (upd I1 17 1) F) := hD
        subst hw
        refine gtop (y := 1) (by decide) ?_
        refine lv_if_eq (tgt := 66) hx hb dX3_dispute_61 (by decide) (fun c61 => ?_) (fun c61 => ?_)
        · exact absurd c61 (by decide)
        · skip
          refine lv_iconst (v := 0) hx hb dX3_dispute_64 (by decide) ?_
          exact W.iret (v := 0) hx hb hr (fun t ht9 hW => ⟨⟨0, (), rfl, (if_neg (by simp [cDispute, c22, c61, t4, t11])).symm, gBi ht9 (gfin hP (mfinF (by simp [cDispute, c22, c61, t4, t11]) (congrArg (upd I1 17) (by simp [w13, cDispute, c22, c61, t4, t11])) rfl))⟩, hS.F ht9⟩) hS.2.2 dX3_dispute_65
    · skip
      have t11 : (okI p1 16) = true := bI_t c11
      have e0 := hj t11
      obtain ⟨e0a, e0b⟩ := e0
      rw [show Value.int p1 = Value.int (nI j) from congrArg Value.int e0a] at hl
      refine lv_iconst (v := 1) hx hb dX3_dispute_14 (by decide) ?_
      refine lv_goto (tgt := 19) hx hb dX3_dispute_15 (by decide) ?_
      refine lv_istore_n (lv' := [(3, .int 1), (0, .ref x1), (1, .int p0), (2, .int (nI j))]) hx hb dX3_dispute_19 rfl hl (by decide) rfl (fun ls hl => ?_)
      refine lv_aload_n hx hb dX3_dispute_20 rfl (lv_at hl 1 rfl) ?_
      refine lv_iload_n hx hb dX3_dispute_21 rfl (lv_at hl 0 rfl) ?_
      refine lv_if_ne (tgt := 29) hx hb dX3_dispute_22 (by decide) (fun c22 => ?_) (fun c22 => ?_)
      · skip
        refine lv_aload_n hx hb dX3_dispute_29 rfl (lv_at hl 1 rfl) ?_
        refine va_get (D := G) (ci := 3) (v := .ref (A 3)) (C := RX3) (T := TX3) (N := 18) hx hb hts hiRX3 hown hK hP 0 rfl rfl 3 (by decide) (hts (.fieldLink RX3 13 "NameAuctionModel" "state" "[I") (by decide +kernel)) (fun _ h9 => h9) rfl dX3_dispute_30 ?_
        refine lv_iload_n hx hb dX3_dispute_33 rfl (lv_at hl 3 rfl) ?_
        refine giald (j := j) hx hb hK hP 2 0 rfl rfl (show (nI j : Int32) = nI j from rfl) (by omega) (by decide) dX3_dispute_34 ?_
        refine lv_iconst (v := 1) hx hb dX3_dispute_35 (by decide) ?_
        refine lv_iconst (v := 3) hx hb dX3_dispute_36 (by decide) ?_
        refine gci (va_runS (As := [.int ((F 3) j), .int 1, .int 3]) (rest := [.ref x1]) ⟨hx, hb, hml, hown, hts⟩ (kX3_isIn l G T ((F 3) j) 1 3 _) (va_cwS 3 hts gX3_dispute_X3_isIn rfl rfl rfl (by decide +kernel) ⟨Nat.le_of_ble_eq_true rfl, Nat.le_of_ble_eq_true rfl⟩) ⟨gblind, gpre hE hK hP hD hS hA [] rfl rfl⟩ rfl rfl hl.1 rfl (lv_room (Nat.le_of_ble_eq_true rfl)) dX3_dispute_37 ⟨Nat.le_of_ble_eq_true rfl, Nat.le_of_ble_eq_true rfl⟩) hP hD hS hA [] rfl rfl (fun r9 H locs hw hP hD hS => ?_)
        have hP : va_P G vwCl (cM T x1 A I1 F) H := hP
        have hD : va_D (va_A (cM T x1 A I1 F) s.heap.size) (cM T x1 A I1 F) := hD
        subst hw
        refine lv_if_eq (tgt := 53) hx hb dX3_dispute_40 (by decide) (fun c40 => ?_) (fun c40 => ?_)
        · skip
          have t40 : (okR ((F 3) j) 1 3) = false := bI_f c40
          refine lv_iconst (v := 2) hx hb dX3_dispute_53 (by decide) ?_
          refine lv_goto (tgt := 58) hx hb dX3_dispute_54 (by decide) ?_
          refine gciT (X := ([] : va_W)) (va_runV (As := [.int 2]) (rest := []) ⟨hx, hb, hml, hown, hts⟩ (kX3_fails l G T x1 A I1 F 2 _) (cwV 1 hts gX3_dispute_X3_fails rfl rfl rfl (by decide +kernel) ⟨Nat.le_of_ble_eq_true rfl, Nat.le_of_ble_eq_true rfl⟩) ⟨gblind, va_recv hK hP (ci := 3) (q0 := 0) rfl rfl, gpreT (X := ([] : va_W)) hE hK hP hD hS hA⟩ rfl rfl hl.1 rfl (lv_room (Nat.le_of_ble_eq_true rfl)) dX3_dispute_58 ⟨Nat.le_of_ble_eq_true rfl, Nat.le_of_ble_eq_true rfl⟩) hP hD hS hA cM_fst (fun r9 H locs hw hP hD hS => ?_)
          have hP : va_P G vwCl (cM T x1 A (upd I1 17 2) F) H := hP
          have hD : va_D (va_A (cM T x1 A I1 F) s.heap.size) (cM T x1 A (upd I1 17 2) F) := hD
          subst hw
          refine gtop (y := 1) (by decide) ?_
          refine lv_if_eq (tgt := 66) hx hb dX3_dispute_61 (by decide) (fun c61 => ?_) (fun c61 => ?_)
          · exact absurd c61 (by decide)
          · skip
            refine lv_iconst (v := 0) hx hb dX3_dispute_64 (by decide) ?_
            exact W.iret (v := 0) hx hb hr (fun t ht9 hW => ⟨⟨0, (), rfl, (if_neg (by simp [cDispute, c22, c61, t4, t11, t40])).symm, gBi ht9 (gfin hP (mfinF (by simp [cDispute, c22, c61, t4, t11, t40]) (congrArg (upd I1 17) (by simp [w13, cDispute, c22, c61, t4, t11, t40])) rfl))⟩, hS.F ht9⟩) hS.2.2 dX3_dispute_65
        · skip
          have t40 : (okR ((F 3) j) 1 3) = true := bI_t c40
          refine lv_aload_n hx hb dX3_dispute_43 rfl (lv_at hl 1 rfl) ?_
          refine va_get (D := G) (ci := 3) (v := .ref (A 4)) (C := RX3) (T := TX3) (N := 18) hx hb hts hiRX3 hown hK hP 0 rfl rfl 4 (by decide) (hts (.fieldLink RX3 16 "NameAuctionModel" "owner" "[I") (by decide +kernel)) (fun _ h9 => h9) rfl dX3_dispute_44 ?_
          refine lv_iload_n hx hb dX3_dispute_47 rfl (lv_at hl 3 rfl) ?_
          refine giald (j := j) hx hb hK hP 3 0 rfl rfl (show (nI j : Int32) = nI j from rfl) (by omega) (by decide) dX3_dispute_48 ?_
          refine lv_iload_n hx hb dX3_dispute_49 rfl (lv_at hl 2 rfl) ?_
          refine lv_icmp_ne (tgt := 57) hx hb dX3_dispute_50 (by decide) (fun c50 => ?_) (fun c50 => ?_)
          · skip
            refine lv_iconst (v := 0) hx hb dX3_dispute_57 (by decide) ?_
            refine gciT (X := ([] : va_W)) (va_runV (As := [.int 0]) (rest := []) ⟨hx, hb, hml, hown, hts⟩ (kX3_fails l G T x1 A I1 F 0 _) (cwV 1 hts gX3_dispute_X3_fails rfl rfl rfl (by decide +kernel) ⟨Nat.le_of_ble_eq_true rfl, Nat.le_of_ble_eq_true rfl⟩) ⟨gblind, va_recv hK hP (ci := 3) (q0 := 0) rfl rfl, gpreT (X := ([] : va_W)) hE hK hP hD hS hA⟩ rfl rfl hl.1 rfl (lv_room (Nat.le_of_ble_eq_true rfl)) dX3_dispute_58 ⟨Nat.le_of_ble_eq_true rfl, Nat.le_of_ble_eq_true rfl⟩) hP hD hS hA cM_fst (fun r9 H locs hw hP hD hS => ?_)
            have hP : va_P G vwCl (cM T x1 A (upd I1 17 0) F) H := hP
            have hD : va_D (va_A (cM T x1 A I1 F) s.heap.size) (cM T x1 A (upd I1 17 0) F) := hD
            subst hw
            refine gtop (y := 0) (by decide) ?_
            refine lv_if_eq (tgt := 66) hx hb dX3_dispute_61 (by decide) (fun c61 => ?_) (fun c61 => ?_)
            · skip
              refine lv_aload_n hx hb dX3_dispute_66 rfl (lv_at hl 1 rfl) ?_
              refine va_get (D := G) (ci := 3) (v := .ref (A 10)) (C := RX3) (T := TX3) (N := 18) hx hb hts hiRX3 hown hK hP 0 rfl rfl 10 (by decide) (hts (.fieldLink RX3 34 "NameAuctionModel" "before" "[I") (by decide +kernel)) (fun _ h9 => h9) rfl dX3_dispute_67 ?_
              refine lv_iload_n hx hb dX3_dispute_70 rfl (lv_at hl 3 rfl) ?_
              refine lv_aload_n hx hb dX3_dispute_71 rfl (lv_at hl 1 rfl) ?_
              refine va_get (D := G) (ci := 3) (v := .ref (A 3)) (C := RX3) (T := TX3) (N := 18) hx hb hts hiRX3 hown hK hP 0 rfl rfl 3 (by decide) (hts (.fieldLink RX3 13 "NameAuctionModel" "state" "[I") (by decide +kernel)) (fun _ h9 => h9) rfl dX3_dispute_72 ?_
              refine lv_iload_n hx hb dX3_dispute_75 rfl (lv_at hl 3 rfl) ?_
              refine giald (j := j) hx hb hK hP 2 0 rfl rfl (show (nI j : Int32) = nI j from rfl) (by omega) (by decide) dX3_dispute_76 ?_
              refine giast (j := j) hx hb hK hP hD hS 9 0 rfl rfl (show (nI j : Int32) = nI j from rfl) (by omega) (by decide) dX3_dispute_77 (fun H locs hP hD hS => ?_)
              have hP : va_P G vwCl (cM T x1 A (upd I1 17 0) (updA F 10 (upd (F 10) j ((F 3) j)))) H := hP
              have hD : va_D (va_A (cM T x1 A I1 F) s.heap.size) (cM T x1 A (upd I1 17 0) (updA F 10 (upd (F 10) j ((F 3) j)))) := hD
              refine lv_aload_n hx hb dX3_dispute_78 rfl (lv_at hl 1 rfl) ?_
              refine va_get (D := G) (ci := 3) (v := .ref (A 8)) (C := RX3) (T := TX3) (N := 18) hx hb hts hiRX3 hown hK hP 0 rfl rfl 8 (by decide) (hts (.fieldLink RX3 28 "NameAuctionModel" "challenger" "[I") (by decide +kernel)) (fun _ h9 => h9) rfl dX3_dispute_79 ?_
              refine lv_iload_n hx hb dX3_dispute_82 rfl (lv_at hl 3 rfl) ?_
              refine lv_iload_n hx hb dX3_dispute_83 rfl (lv_at hl 2 rfl) ?_
              refine giast (j := j) hx hb hK hP hD hS 7 0 rfl rfl (show (nI j : Int32) = nI j from rfl) (by omega) (by decide) dX3_dispute_84 (fun H locs hP hD hS => ?_)
              have hP : va_P G vwCl (cM T x1 A (upd I1 17 0) (updA (updA F 10 (upd (F 10) j ((F 3) j))) 8 (upd (F 8) j p0))) H := hP
              have hD : va_D (va_A (cM T x1 A I1 F) s.heap.size) (cM T x1 A (upd I1 17 0) (updA (updA F 10 (upd (F 10) j ((F 3) j))) 8 (upd (F 8) j p0))) := hD
              refine lv_aload_n hx hb dX3_dispute_85 rfl (lv_at hl 1 rfl) ?_
              refine va_get (D := G) (ci := 3) (v := .ref (A 9)) (C := RX3) (T := TX3) (N := 18) hx hb hts hiRX3 hown hK hP 0 rfl rfl 9 (by decide) (hts (.fieldLink RX3 31 "NameAuctionModel" "since" "[I") (by decide +kernel)) (fun _ h9 => h9) rfl dX3_dispute_86 ?_
              refine lv_iload_n hx hb dX3_dispute_89 rfl (lv_at hl 3 rfl) ?_
              refine lv_aload_n hx hb dX3_dispute_90 rfl (lv_at hl 1 rfl) ?_
              refine va_get (D := G) (ci := 3) (v := .int (I1 0)) (C := RX3) (T := TX3) (N := 18) hx hb hts hiRX3 hown hK hP 0 rfl rfl 0 (by decide) (hts (.fieldLink RX3 71 "NameAuctionModel" "today" "I") (by decide +kernel)) (fun _ h9 => h9) rfl dX3_dispute_91 ?_
              refine giast (j := j) hx hb hK hP hD hS 8 0 rfl rfl (show (nI j : Int32) = nI j from rfl) (by omega) (by decide) dX3_dispute_94 (fun H locs hP hD hS => ?_)
              have hP : va_P G vwCl (cM T x1 A (upd I1 17 0) (updA (updA (updA F 10 (upd (F 10) j ((F 3) j))) 8 (upd (F 8) j p0)) 9 (upd (F 9) j (I1 0)))) H := hP
              have hD : va_D (va_A (cM T x1 A I1 F) s.heap.size) (cM T x1 A (upd I1 17 0) (updA (updA (updA F 10 (upd (F 10) j ((F 3) j))) 8 (upd (F 8) j p0)) 9 (upd (F 9) j (I1 0)))) := hD
              refine lv_aload_n hx hb dX3_dispute_95 rfl (lv_at hl 1 rfl) ?_
              refine va_get (D := G) (ci := 3) (v := .ref (A 3)) (C := RX3) (T := TX3) (N := 18) hx hb hts hiRX3 hown hK hP 0 rfl rfl 3 (by decide) (hts (.fieldLink RX3 13 "NameAuctionModel" "state" "[I") (by decide +kernel)) (fun _ h9 => h9) rfl dX3_dispute_96 ?_
              refine lv_iload_n hx hb dX3_dispute_99 rfl (lv_at hl 3 rfl) ?_
              refine lv_iconst (v := 5) hx hb dX3_dispute_100 (by decide) ?_
              refine giast (j := j) hx hb hK hP hD hS 2 0 rfl rfl (show (nI j : Int32) = nI j from rfl) (by omega) (by decide) dX3_dispute_101 (fun H locs hP hD hS => ?_)
              have hP : va_P G vwCl (cM T x1 A (upd I1 17 0) (updA (updA (updA (updA F 10 (upd (F 10) j ((F 3) j))) 8 (upd (F 8) j p0)) 9 (upd (F 9) j (I1 0))) 3 (upd (F 3) j 5))) H := hP
              have hD : va_D (va_A (cM T x1 A I1 F) s.heap.size) (cM T x1 A (upd I1 17 0) (updA (updA (updA (updA F 10 (upd (F 10) j ((F 3) j))) 8 (upd (F 8) j p0)) 9 (upd (F 9) j (I1 0))) 3 (upd (F 3) j 5))) := hD
              refine lv_aload_n hx hb dX3_dispute_102 rfl (lv_at hl 1 rfl) ?_
              refine lv_iload_n hx hb dX3_dispute_103 rfl (lv_at hl 3 rfl) ?_
              refine gcvT (X := ([] : va_W)) (va_runV (As := [.int (nI j)]) (rest := []) ⟨hx, hb, hml, hown, hts⟩ (kX3_clears l G T x1 A (upd I1 17 0) (updA (updA (updA (updA F 10 (upd (F 10) j ((F 3) j))) 8 (upd (F 8) j p0)) 9 (upd (F 9) j (I1 0))) 3 (upd (F 3) j 5)) j _ (by omega)) (cwV 1 hts gX3_dispute_X3_clears rfl rfl rfl (by decide +kernel) ⟨Nat.le_of_ble_eq_true rfl, Nat.le_of_ble_eq_true rfl⟩) ⟨gblind, va_recv hK hP (ci := 3) (q0 := 0) rfl rfl, gpreT (X := ([] : va_W)) hE hK hP hD hS hA⟩ rfl rfl hl.1 rfl (lv_room (Nat.le_of_ble_eq_true rfl)) dX3_dispute_104 ⟨Nat.le_of_ble_eq_true rfl, Nat.le_of_ble_eq_true rfl⟩) hP hD hS hA cM_fst (fun H locs hw hP hD hS => ?_)
              have hP : va_P G vwCl (cM T x1 A (upd I1 17 0) (mClear (updA (updA (updA (updA F 10 (upd (F 10) j ((F 3) j))) 8 (upd (F 8) j p0)) 9 (upd (F 9) j (I1 0))) 3 (upd (F 3) j 5)) j)) H := hP
              have hD : va_D (va_A (cM T x1 A I1 F) s.heap.size) (cM T x1 A (upd I1 17 0) (mClear (updA (updA (updA (updA F 10 (upd (F 10) j ((F 3) j))) 8 (upd (F 8) j p0)) 9 (upd (F 9) j (I1 0))) 3 (upd (F 3) j 5)) j)) := hD
              refine lv_aload_n hx hb dX3_dispute_107 rfl (lv_at hl 1 rfl) ?_
              refine va_get (D := G) (ci := 3) (v := .ref (A 10)) (C := RX3) (T := TX3) (N := 18) hx hb hts hiRX3 hown hK hP 0 rfl rfl 10 (by decide) (hts (.fieldLink RX3 34 "NameAuctionModel" "before" "[I") (by decide +kernel)) (fun _ h9 => h9) rfl dX3_dispute_108 ?_
              refine lv_iload_n hx hb dX3_dispute_111 rfl (lv_at hl 3 rfl) ?_
              refine giald (j := j) hx hb hK hP 9 0 rfl rfl (show (nI j : Int32) = nI j from rfl) (by omega) (by decide) dX3_dispute_112 ?_
              exact W.iret (v := ((mClear (updA (updA (updA (updA F 10 (upd (F 10) j ((F 3) j))) 8 (upd (F 8) j p0)) 9 (upd (F 9) j (I1 0))) 3 (upd (F 3) j 5)) j) 10) j) hx hb hr (fun t ht9 hW => ⟨⟨((mClear (updA (updA (updA (updA F 10 (upd (F 10) j ((F 3) j))) 8 (upd (F 8) j p0)) 9 (upd (F 9) j (I1 0))) 3 (upd (F 3) j 5)) j) 10) j, (), rfl, (show (((mClear (updA (updA (updA (updA F 10 (upd (F 10) j ((F 3) j))) 8 (upd (F 8) j p0)) 9 (upd (F 9) j (I1 0))) 3 (upd (F 3) j 5)) j) 10) j) = (F 3 j) from by simp [mClear, upd, updA]).trans (if_pos (show (cDispute F j p0 p1) = 0 by simp [cDispute, c22, c50, c61, t4, t11, t40])).symm, gBi ht9 (gfin hP (mfinT (by simp [cDispute, c22, c50, c61, t4, t11, t40]) (rfl) (rfl)))⟩, hS.F ht9⟩) hS.2.2 dX3_dispute_113
            · exact absurd c61 (by decide)
          · skip
            refine lv_iconst (v := 2) hx hb dX3_dispute_53 (by decide) ?_
            refine lv_goto (tgt := 58) hx hb dX3_dispute_54 (by decide) ?_
            refine gciT (X := ([] : va_W)) (va_runV (As := [.int 2]) (rest := []) ⟨hx, hb, hml, hown, hts⟩ (kX3_fails l G T x1 A I1 F 2 _) (cwV 1 hts gX3_dispute_X3_fails rfl rfl rfl (by decide +kernel) ⟨Nat.le_of_ble_eq_true rfl, Nat.le_of_ble_eq_true rfl⟩) ⟨gblind, va_recv hK hP (ci := 3) (q0 := 0) rfl rfl, gpreT (X := ([] : va_W)) hE hK hP hD hS hA⟩ rfl rfl hl.1 rfl (lv_room (Nat.le_of_ble_eq_true rfl)) dX3_dispute_58 ⟨Nat.le_of_ble_eq_true rfl, Nat.le_of_ble_eq_true rfl⟩) hP hD hS hA cM_fst (fun r9 H locs hw hP hD hS => ?_)
            have hP : va_P G vwCl (cM T x1 A (upd I1 17 2) F) H := hP
            have hD : va_D (va_A (cM T x1 A I1 F) s.heap.size) (cM T x1 A (upd I1 17 2) F) := hD
            subst hw
            refine gtop (y := 1) (by decide) ?_
            refine lv_if_eq (tgt := 66) hx hb dX3_dispute_61 (by decide) (fun c61 => ?_) (fun c61 => ?_)
            · exact absurd c61 (by decide)
            · skip
              refine lv_iconst (v := 0) hx hb dX3_dispute_64 (by decide) ?_
              exact W.iret (v := 0) hx hb hr (fun t ht9 hW => ⟨⟨0, (), rfl, (if_neg (by simp [cDispute, c22, c50, c61, t4, t11, t40])).symm, gBi ht9 (gfin hP (mfinF (by simp [cDispute, c22, c50, c61, t4, t11, t40]) (congrArg (upd I1 17) (by simp [w13, cDispute, c22, c50, c61, t4, t11, t40])) rfl))⟩, hS.F ht9⟩) hS.2.2 dX3_dispute_65
      · exact absurd c22 (by decide)
abbrev PX3_decide (G : va_G) (T : Nat → ClassId) (x1 : Nat) (A : Nat → Nat) (I1 : Nat → Int32) (F : Nat → Nat → Int32) (j : Nat) (p0 p1 : Int32) (sz : Nat) : Array Value → State → Prop := gPc G T [.ref x1, .int p0, .int p1] (cM T x1 A I1 F) sz
abbrev QX3_decide (G : va_G) (T : Nat → ClassId) (x1 : Nat) (A : Nat → Nat) (I1 : Nat → Int32) (F : Nat → Nat → Int32) (j : Nat) (p0 p1 : Int32) (sz : Nat) : Array Value → State → Outcome → State → Prop := va_Qi (fun (r : Int32) (_ : Unit) => r = if (cDecide F j p0) = 0 then mDecF I1 F j p1 3 j else 0) (gB G (cM T x1 A (if (cDecide F j p0) = 0 then (upd I1 17 0) else upd I1 17 (w13 (cDecide F j p0))) (if (cDecide F j p0) = 0 then (mDecF I1 F j p1) else F))) (va_A (cM T x1 A I1 F) sz)
set_option maxHeartbeats 4000000 in
set_option maxRecDepth 100000 in
theorem kX3_decide (l : Launch) (G : va_G) (T : Nat → ClassId) (x1 : Nat) (A : Nat → Nat) (I1 : Nat → Int32) (F : Nat → Nat → Int32) (j : Nat) (p0 p1 : Int32) (sz : Nat) (hj : okI p0 16 = true → p0 = nI j ∧ j < 16) : Met l yX3_decide wsX3_decide ({ frames := 2, cells := 0, slots := 0, locals := 42 } : Room) (PX3_decide G T x1 A I1 F j p0 p1 sz) (QX3_decide G T x1 A I1 F j p0 p1 sz) 0 0 (va_A (cM T x1 A I1 F) sz) := by
  refine Met.ofW (cc := cX3_decide) (maxL := 4) (ret := (some .int)) (by decide) rfl ?_
  intro p e s m args below meth c s₁ B hml hv
  obtain ⟨rfl, hsz, hP, hK, hD0, hE⟩ := hv
  have hx := B.exec
  have hb := B.bytes
  have hr := B.returns
  have hts := atoms_spec (ws := wsX3_decide) B.pre
  have hown : s.vm.findClass RX3 = some m.cls := findClass_of_methodNamed B.named
  have hlocks := B.notSynchronized
  subst hsz
  have hD := hD0.self (sz := s.heap.size)
  have hA : ∀ q : Nat, s.heap.size ≤ q → (va_A (cM T x1 A I1 F) s.heap.size) q := fun q h => Or.inr h
  have hS : va_S (va_A (cM T x1 A I1 F) s.heap.size) s.heap s.heap [] := va_S.rf
  have hiRX3 : ∀ w ∈ u_ws RX3 TX3 18, w ∈ wsX3_decide := by decide +kernel
  have hl := lv_entry ([.ref x1, .int p0, .int p1]) (n := 4) (Nat.le_of_ble_eq_true rfl)
  rw [lg_entry_eq]
  generalize (lg_sl ([.ref x1, .int p0, .int p1]) ++ List.replicate (4 - (lg_sl ([.ref x1, .int p0, .int p1])).length) Slot.unset).toArray = ls at hl ⊢
  have hl : lv_has ls 4 [(0, .ref x1), (1, .int p0), (2, .int p1)] := hl
  have hP : va_P G vwCl (cM T x1 A I1 F) s.heap := hP
  refine lv_iload_n hx hb dX3_decide_0 rfl (lv_at hl 1 rfl) ?_
  refine gci (va_runS (As := [.int p0]) (rest := []) ⟨hx, hb, hml, hown, hts⟩ (kX3_isName l G T p0 _) (va_cwS 1 hts gX3_decide_X3_isName rfl rfl rfl (by decide +kernel) ⟨Nat.le_of_ble_eq_true rfl, Nat.le_of_ble_eq_true rfl⟩) ⟨gblind, gpre hE hK hP hD hS hA [] rfl rfl⟩ rfl rfl hl.1 rfl (lv_room (Nat.le_of_ble_eq_true rfl)) dX3_decide_1 ⟨Nat.le_of_ble_eq_true rfl, Nat.le_of_ble_eq_true rfl⟩) hP hD hS hA [] rfl rfl (fun r9 H locs hw hP hD hS => ?_)
  have hP : va_P G vwCl (cM T x1 A I1 F) H := hP
  have hD : va_D (va_A (cM T x1 A I1 F) s.heap.size) (cM T x1 A I1 F) := hD
  subst hw
  refine lv_istore_n (lv' := [(3, .int (bI (okI p0 16))), (0, .ref x1), (1, .int p0), (2, .int p1)]) hx hb dX3_decide_4 rfl hl (by decide) rfl (fun ls hl => ?_)
  refine lv_aload_n hx hb dX3_decide_5 rfl (lv_at hl 1 rfl) ?_
  refine lv_iload_n hx hb dX3_decide_6 rfl (lv_at hl 0 rfl) ?_
  refine lv_if_ne (tgt := 14) hx hb dX3_decide_7 (by decide) (fun c7 => ?_) (fun c7 => ?_)
  · skip
    have t7 : (okI p0 16) = true := bI_t c7
    have e0 := hj t7
    obtain ⟨e0a, e0b⟩ := e0
    rw [show Value.int p0 = Value.int (nI j) from congrArg Value.int e0a] at hl
    refine lv_aload_n hx hb dX3_decide_14 rfl (lv_at hl 1 rfl) ?_
    refine va_get (D := G) (ci := 3) (v := .ref (A 3)) (C := RX3) (T := TX3) (N := 18) hx hb hts hiRX3 hown hK hP 0 rfl rfl 3 (by decide) (hts (.fieldLink RX3 13 "NameAuctionModel" "state" "[I") (by decide +kernel)) (fun _ h9 => h9) rfl dX3_decide_15 ?_
    refine lv_iload_n hx hb dX3_decide_18 rfl (lv_at hl 2 rfl) ?_
    refine giald (j := j) hx hb hK hP 2 0 rfl rfl (show (nI j : Int32) = nI j from rfl) (by omega) (by decide) dX3_decide_19 ?_
    refine lv_iconst (v := 5) hx hb dX3_decide_20 (by decide) ?_
    refine lv_icmp_ne (tgt := 28) hx hb dX3_decide_21 (by decide) (fun c21 => ?_) (fun c21 => ?_)
    · skip
      refine lv_iconst (v := 2) hx hb dX3_decide_28 (by decide) ?_
      refine gciT (X := ([] : va_W)) (va_runV (As := [.int 2]) (rest := []) ⟨hx, hb, hml, hown, hts⟩ (kX3_fails l G T x1 A I1 F 2 _) (cwV 1 hts gX3_decide_X3_fails rfl rfl rfl (by decide +kernel) ⟨Nat.le_of_ble_eq_true rfl, Nat.le_of_ble_eq_true rfl⟩) ⟨gblind, va_recv hK hP (ci := 3) (q0 := 0) rfl rfl, gpreT (X := ([] : va_W)) hE hK hP hD hS hA⟩ rfl rfl hl.1 rfl (lv_room (Nat.le_of_ble_eq_true rfl)) dX3_decide_29 ⟨Nat.le_of_ble_eq_true rfl, Nat.le_of_ble_eq_true rfl⟩) hP hD hS hA cM_fst (fun r9 H locs hw hP hD hS => ?_)
      have hP : va_P G vwCl (cM T x1 A (upd I1 17 2) F) H := hP
      have hD : va_D (va_A (cM T x1 A I1 F) s.heap.size) (cM T x1 A (upd I1 17 2) F) := hD
      subst hw
      refine gtop (y := 1) (by decide) ?_
      refine lv_if_eq (tgt := 37) hx hb dX3_decide_32 (by decide) (fun c32 => ?_) (fun c32 => ?_)
      · exact absurd c32 (by decide)
      · skip
        refine lv_iconst (v := 0) hx hb dX3_decide_35 (by decide) ?_
        exact W.iret (v := 0) hx hb hr (fun t ht9 hW => ⟨⟨0, (), rfl, (if_neg (by simp [cDecide, c21, c32, t7])).symm, gBi ht9 (gfin hP (mfinF (by simp [cDecide, c21, c32, t7]) (congrArg (upd I1 17) (by simp [w13, cDecide, c21, c32, t7])) rfl))⟩, hS.F ht9⟩) hS.2.2 dX3_decide_36
    · skip
      refine lv_iconst (v := 0) hx hb dX3_decide_24 (by decide) ?_
      refine lv_goto (tgt := 29) hx hb dX3_decide_25 (by decide) ?_
      refine gciT (X := ([] : va_W)) (va_runV (As := [.int 0]) (rest := []) ⟨hx, hb, hml, hown, hts⟩ (kX3_fails l G T x1 A I1 F 0 _) (cwV 1 hts gX3_decide_X3_fails rfl rfl rfl (by decide +kernel) ⟨Nat.le_of_ble_eq_true rfl, Nat.le_of_ble_eq_true rfl⟩) ⟨gblind, va_recv hK hP (ci := 3) (q0 := 0) rfl rfl, gpreT (X := ([] : va_W)) hE hK hP hD hS hA⟩ rfl rfl hl.1 rfl (lv_room (Nat.le_of_ble_eq_true rfl)) dX3_decide_29 ⟨Nat.le_of_ble_eq_true rfl, Nat.le_of_ble_eq_true rfl⟩) hP hD hS hA cM_fst (fun r9 H locs hw hP hD hS => ?_)
      have hP : va_P G vwCl (cM T x1 A (upd I1 17 0) F) H := hP
      have hD : va_D (va_A (cM T x1 A I1 F) s.heap.size) (cM T x1 A (upd I1 17 0) F) := hD
      subst hw
      refine gtop (y := 0) (by decide) ?_
      refine lv_if_eq (tgt := 37) hx hb dX3_decide_32 (by decide) (fun c32 => ?_) (fun c32 => ?_)
      · skip
        refine lv_aload_n hx hb dX3_decide_37 rfl (lv_at hl 1 rfl) ?_
        refine va_get (D := G) (ci := 3) (v := .ref (A 10)) (C := RX3) (T := TX3) (N := 18) hx hb hts hiRX3 hown hK hP 0 rfl rfl 10 (by decide) (hts (.fieldLink RX3 34 "NameAuctionModel" "before" "[I") (by decide +kernel)) (fun _ h9 => h9) rfl dX3_decide_38 ?_
        refine lv_iload_n hx hb dX3_decide_41 rfl (lv_at hl 2 rfl) ?_
        refine giald (j := j) hx hb hK hP 9 0 rfl rfl (show (nI j : Int32) = nI j from rfl) (by omega) (by decide) dX3_decide_42 ?_
        refine lv_iconst (v := 1) hx hb dX3_decide_43 (by decide) ?_
        refine lv_icmp_ne (tgt := 76) hx hb dX3_decide_44 (by decide) (fun c44 => ?_) (fun c44 => ?_)
        · skip
          refine lv_aload_n hx hb dX3_decide_76 rfl (lv_at hl 1 rfl) ?_
          refine va_get (D := G) (ci := 3) (v := .ref (A 3)) (C := RX3) (T := TX3) (N := 18) hx hb hts hiRX3 hown hK hP 0 rfl rfl 3 (by decide) (hts (.fieldLink RX3 13 "NameAuctionModel" "state" "[I") (by decide +kernel)) (fun _ h9 => h9) rfl dX3_decide_77 ?_
          refine lv_iload_n hx hb dX3_decide_80 rfl (lv_at hl 2 rfl) ?_
          refine lv_aload_n hx hb dX3_decide_81 rfl (lv_at hl 1 rfl) ?_
          refine va_get (D := G) (ci := 3) (v := .ref (A 10)) (C := RX3) (T := TX3) (N := 18) hx hb hts hiRX3 hown hK hP 0 rfl rfl 10 (by decide) (hts (.fieldLink RX3 34 "NameAuctionModel" "before" "[I") (by decide +kernel)) (fun _ h9 => h9) rfl dX3_decide_82 ?_
          refine lv_iload_n hx hb dX3_decide_85 rfl (lv_at hl 2 rfl) ?_
          refine giald (j := j) hx hb hK hP 9 0 rfl rfl (show (nI j : Int32) = nI j from rfl) (by omega) (by decide) dX3_decide_86 ?_
          refine giast (j := j) hx hb hK hP hD hS 2 0 rfl rfl (show (nI j : Int32) = nI j from rfl) (by omega) (by decide) dX3_decide_87 (fun H locs hP hD hS => ?_)
          have hP : va_P G vwCl (cM T x1 A (upd I1 17 0) (updA F 3 (upd (F 3) j ((F 10) j)))) H := hP
          have hD : va_D (va_A (cM T x1 A I1 F) s.heap.size) (cM T x1 A (upd I1 17 0) (updA F 3 (upd (F 3) j ((F 10) j)))) := hD
          refine lv_aload_n hx hb dX3_decide_88 rfl (lv_at hl 1 rfl) ?_
          refine va_get (D := G) (ci := 3) (v := .ref (A 5)) (C := RX3) (T := TX3) (N := 18) hx hb hts hiRX3 hown hK hP 0 rfl rfl 5 (by decide) (hts (.fieldLink RX3 19 "NameAuctionModel" "day" "[I") (by decide +kernel)) (fun _ h9 => h9) rfl dX3_decide_89 ?_
          refine lv_iload_n hx hb dX3_decide_92 rfl (lv_at hl 2 rfl) ?_
          refine lv_dup2_11 hx hb dX3_decide_93 rfl rfl ?_
          refine giald (j := j) hx hb hK hP 4 0 rfl rfl (show (nI j : Int32) = nI j from rfl) (by omega) (by decide) dX3_decide_94 ?_
          refine lv_aload_n hx hb dX3_decide_95 rfl (lv_at hl 1 rfl) ?_
          refine va_get (D := G) (ci := 3) (v := .int (I1 0)) (C := RX3) (T := TX3) (N := 18) hx hb hts hiRX3 hown hK hP 0 rfl rfl 0 (by decide) (hts (.fieldLink RX3 71 "NameAuctionModel" "today" "I") (by decide +kernel)) (fun _ h9 => h9) rfl dX3_decide_96 ?_
          refine lv_aload_n hx hb dX3_decide_99 rfl (lv_at hl 1 rfl) ?_
          refine va_get (D := G) (ci := 3) (v := .ref (A 9)) (C := RX3) (T := TX3) (N := 18) hx hb hts hiRX3 hown hK hP 0 rfl rfl 9 (by decide) (hts (.fieldLink RX3 31 "NameAuctionModel" "since" "[I") (by decide +kernel)) (fun _ h9 => h9) rfl dX3_decide_100 ?_
          refine lv_iload_n hx hb dX3_decide_103 rfl (lv_at hl 2 rfl) ?_
          refine giald (j := j) hx hb hK hP 8 0 rfl rfl (show (nI j : Int32) = nI j from rfl) (by omega) (by decide) dX3_decide_104 ?_
          refine lv_isub hx hb dX3_decide_105 ?_
          refine lv_iadd hx hb dX3_decide_106 ?_
          refine giast (j := j) hx hb hK hP hD hS 4 0 rfl rfl (show (nI j : Int32) = nI j from rfl) (by omega) (by decide) dX3_decide_107 (fun H locs hP hD hS => ?_)
          have hP : va_P G vwCl (cM T x1 A (upd I1 17 0) (updA (updA F 3 (upd (F 3) j ((F 10) j))) 5 (upd (F 5) j (((F 5) j) + ((I1 0) - ((F 9) j)))))) H := hP
          have hD : va_D (va_A (cM T x1 A I1 F) s.heap.size) (cM T x1 A (upd I1 17 0) (updA (updA F 3 (upd (F 3) j ((F 10) j))) 5 (upd (F 5) j (((F 5) j) + ((I1 0) - ((F 9) j)))))) := hD
          refine lv_aload_n hx hb dX3_decide_108 rfl (lv_at hl 1 rfl) ?_
          refine va_get (D := G) (ci := 3) (v := .ref (A 4)) (C := RX3) (T := TX3) (N := 18) hx hb hts hiRX3 hown hK hP 0 rfl rfl 4 (by decide) (hts (.fieldLink RX3 16 "NameAuctionModel" "owner" "[I") (by decide +kernel)) (fun _ h9 => h9) rfl dX3_decide_109 ?_
          refine lv_iload_n hx hb dX3_decide_112 rfl (lv_at hl 2 rfl) ?_
          refine lv_iload_n hx hb dX3_decide_113 rfl (lv_at hl 3 rfl) ?_
          refine lv_if_eq (tgt := 126) hx hb dX3_decide_114 (by decide) (fun c114 => ?_) (fun c114 => ?_)
          · skip
            refine lv_aload_n hx hb dX3_decide_126 rfl (lv_at hl 1 rfl) ?_
            refine va_get (D := G) (ci := 3) (v := .ref (A 4)) (C := RX3) (T := TX3) (N := 18) hx hb hts hiRX3 hown hK hP 0 rfl rfl 4 (by decide) (hts (.fieldLink RX3 16 "NameAuctionModel" "owner" "[I") (by decide +kernel)) (fun _ h9 => h9) rfl dX3_decide_127 ?_
            refine lv_iload_n hx hb dX3_decide_130 rfl (lv_at hl 2 rfl) ?_
            refine giald (j := j) hx hb hK hP 3 0 rfl rfl (show (nI j : Int32) = nI j from rfl) (by omega) (by decide) dX3_decide_131 ?_
            refine giast (j := j) hx hb hK hP hD hS 3 0 rfl rfl (show (nI j : Int32) = nI j from rfl) (by omega) (by decide) dX3_decide_132 (fun H locs hP hD hS => ?_)
            have hP : va_P G vwCl (cM T x1 A (upd I1 17 0) (updA (updA (updA F 3 (upd (F 3) j ((F 10) j))) 5 (upd (F 5) j (((F 5) j) + ((I1 0) - ((F 9) j))))) 4 (upd (F 4) j ((F 4) j)))) H := hP
            have hD : va_D (va_A (cM T x1 A I1 F) s.heap.size) (cM T x1 A (upd I1 17 0) (updA (updA (updA F 3 (upd (F 3) j ((F 10) j))) 5 (upd (F 5) j (((F 5) j) + ((I1 0) - ((F 9) j))))) 4 (upd (F 4) j ((F 4) j)))) := hD
            refine lv_aload_n hx hb dX3_decide_133 rfl (lv_at hl 1 rfl) ?_
            refine va_get (D := G) (ci := 3) (v := .ref (A 3)) (C := RX3) (T := TX3) (N := 18) hx hb hts hiRX3 hown hK hP 0 rfl rfl 3 (by decide) (hts (.fieldLink RX3 13 "NameAuctionModel" "state" "[I") (by decide +kernel)) (fun _ h9 => h9) rfl dX3_decide_134 ?_
            refine lv_iload_n hx hb dX3_decide_137 rfl (lv_at hl 2 rfl) ?_
            refine giald (j := j) hx hb hK hP 2 0 rfl rfl (show (nI j : Int32) = nI j from rfl) (by omega) (by decide) dX3_decide_138 ?_
            exact W.iret (v := (upd (F 3) j ((F 10) j)) j) hx hb hr (fun t ht9 hW => ⟨⟨(upd (F 3) j ((F 10) j)) j, (), rfl, (show ((upd (F 3) j ((F 10) j)) j) = (mDecF I1 F j p1 3 j) from by simp [mDecF, mLease, upd, updA, c21, c32, c44, c114, t7]).trans (if_pos (show (cDecide F j p0) = 0 by simp [cDecide, c21, c32, c44, c114, t7])).symm, gBi ht9 (gfin hP (mfinT (by simp [cDecide, c21, c32, c44, c114, t7]) (rfl) (by simp [mDecF, c21, c32, c44, c114, t7] <;> rfl)))⟩, hS.F ht9⟩) hS.2.2 dX3_decide_139
          · skip
            refine lv_aload_n hx hb dX3_decide_117 rfl (lv_at hl 1 rfl) ?_
            refine va_get (D := G) (ci := 3) (v := .ref (A 8)) (C := RX3) (T := TX3) (N := 18) hx hb hts hiRX3 hown hK hP 0 rfl rfl 8 (by decide) (hts (.fieldLink RX3 28 "NameAuctionModel" "challenger" "[I") (by decide +kernel)) (fun _ h9 => h9) rfl dX3_decide_118 ?_
            refine lv_iload_n hx hb dX3_decide_121 rfl (lv_at hl 2 rfl) ?_
            refine giald (j := j) hx hb hK hP 7 0 rfl rfl (show (nI j : Int32) = nI j from rfl) (by omega) (by decide) dX3_decide_122 ?_
            refine lv_goto (tgt := 132) hx hb dX3_decide_123 (by decide) ?_
            refine giast (j := j) hx hb hK hP hD hS 3 0 rfl rfl (show (nI j : Int32) = nI j from rfl) (by omega) (by decide) dX3_decide_132 (fun H locs hP hD hS => ?_)
            have hP : va_P G vwCl (cM T x1 A (upd I1 17 0) (updA (updA (updA F 3 (upd (F 3) j ((F 10) j))) 5 (upd (F 5) j (((F 5) j) + ((I1 0) - ((F 9) j))))) 4 (upd (F 4) j ((F 8) j)))) H := hP
            have hD : va_D (va_A (cM T x1 A I1 F) s.heap.size) (cM T x1 A (upd I1 17 0) (updA (updA (updA F 3 (upd (F 3) j ((F 10) j))) 5 (upd (F 5) j (((F 5) j) + ((I1 0) - ((F 9) j))))) 4 (upd (F 4) j ((F 8) j)))) := hD
            refine lv_aload_n hx hb dX3_decide_133 rfl (lv_at hl 1 rfl) ?_
            refine va_get (D := G) (ci := 3) (v := .ref (A 3)) (C := RX3) (T := TX3) (N := 18) hx hb hts hiRX3 hown hK hP 0 rfl rfl 3 (by decide) (hts (.fieldLink RX3 13 "NameAuctionModel" "state" "[I") (by decide +kernel)) (fun _ h9 => h9) rfl dX3_decide_134 ?_
            refine lv_iload_n hx hb dX3_decide_137 rfl (lv_at hl 2 rfl) ?_
            refine giald (j := j) hx hb hK hP 2 0 rfl rfl (show (nI j : Int32) = nI j from rfl) (by omega) (by decide) dX3_decide_138 ?_
            exact W.iret (v := (upd (F 3) j ((F 10) j)) j) hx hb hr (fun t ht9 hW => ⟨⟨(upd (F 3) j ((F 10) j)) j, (), rfl, (show ((upd (F 3) j ((F 10) j)) j) = (mDecF I1 F j p1 3 j) from by simp [mDecF, mLease, upd, updA, c21, c32, c44, c114, t7]).trans (if_pos (show (cDecide F j p0) = 0 by simp [cDecide, c21, c32, c44, c114, t7])).symm, gBi ht9 (gfin hP (mfinT (by simp [cDecide, c21, c32, c44, c114, t7]) (rfl) (by simp [mDecF, c21, c32, c44, c114, t7] <;> rfl)))⟩, hS.F ht9⟩) hS.2.2 dX3_decide_139
        · skip
          refine lv_aload_n hx hb dX3_decide_47 rfl (lv_at hl 1 rfl) ?_
          refine va_get (D := G) (ci := 3) (v := .ref (A 3)) (C := RX3) (T := TX3) (N := 18) hx hb hts hiRX3 hown hK hP 0 rfl rfl 3 (by decide) (hts (.fieldLink RX3 13 "NameAuctionModel" "state" "[I") (by decide +kernel)) (fun _ h9 => h9) rfl dX3_decide_48 ?_
          refine lv_iload_n hx hb dX3_decide_51 rfl (lv_at hl 2 rfl) ?_
          refine lv_iconst (v := 0) hx hb dX3_decide_52 (by decide) ?_
          refine giast (j := j) hx hb hK hP hD hS 2 0 rfl rfl (show (nI j : Int32) = nI j from rfl) (by omega) (by decide) dX3_decide_53 (fun H locs hP hD hS => ?_)
          have hP : va_P G vwCl (cM T x1 A (upd I1 17 0) (updA F 3 (upd (F 3) j 0))) H := hP
          have hD : va_D (va_A (cM T x1 A I1 F) s.heap.size) (cM T x1 A (upd I1 17 0) (updA F 3 (upd (F 3) j 0))) := hD
          refine lv_iload_n hx hb dX3_decide_54 rfl (lv_at hl 3 rfl) ?_
          refine lv_if_eq (tgt := 69) hx hb dX3_decide_55 (by decide) (fun c55 => ?_) (fun c55 => ?_)
          · skip
            refine lv_aload_n hx hb dX3_decide_69 rfl (lv_at hl 1 rfl) ?_
            refine va_get (D := G) (ci := 3) (v := .ref (A 3)) (C := RX3) (T := TX3) (N := 18) hx hb hts hiRX3 hown hK hP 0 rfl rfl 3 (by decide) (hts (.fieldLink RX3 13 "NameAuctionModel" "state" "[I") (by decide +kernel)) (fun _ h9 => h9) rfl dX3_decide_70 ?_
            refine lv_iload_n hx hb dX3_decide_73 rfl (lv_at hl 2 rfl) ?_
            refine giald (j := j) hx hb hK hP 2 0 rfl rfl (show (nI j : Int32) = nI j from rfl) (by omega) (by decide) dX3_decide_74 ?_
            exact W.iret (v := (upd (F 3) j 0) j) hx hb hr (fun t ht9 hW => ⟨⟨(upd (F 3) j 0) j, (), rfl, (show ((upd (F 3) j 0) j) = (mDecF I1 F j p1 3 j) from by simp [mDecF, mLease, upd, updA, c21, c32, c44, c55, t7]).trans (if_pos (show (cDecide F j p0) = 0 by simp [cDecide, c21, c32, c44, c55, t7])).symm, gBi ht9 (gfin hP (mfinT (by simp [cDecide, c21, c32, c44, c55, t7]) (rfl) (by simp [mDecF, c21, c32, c44, c55, t7] <;> rfl)))⟩, hS.F ht9⟩) hS.2.2 dX3_decide_75
          · skip
            refine lv_aload_n hx hb dX3_decide_58 rfl (lv_at hl 1 rfl) ?_
            refine lv_iload_n hx hb dX3_decide_59 rfl (lv_at hl 2 rfl) ?_
            refine lv_aload_n hx hb dX3_decide_60 rfl (lv_at hl 1 rfl) ?_
            refine va_get (D := G) (ci := 3) (v := .ref (A 8)) (C := RX3) (T := TX3) (N := 18) hx hb hts hiRX3 hown hK hP 0 rfl rfl 8 (by decide) (hts (.fieldLink RX3 28 "NameAuctionModel" "challenger" "[I") (by decide +kernel)) (fun _ h9 => h9) rfl dX3_decide_61 ?_
            refine lv_iload_n hx hb dX3_decide_64 rfl (lv_at hl 2 rfl) ?_
            refine giald (j := j) hx hb hK hP 7 0 rfl rfl (show (nI j : Int32) = nI j from rfl) (by omega) (by decide) dX3_decide_65 ?_
            refine gcvT (X := ([] : va_W)) (va_runV (As := [.int (nI j), .int ((F 8) j)]) (rest := []) ⟨hx, hb, hml, hown, hts⟩ (kX3_leases l G T x1 A (upd I1 17 0) (updA F 3 (upd (F 3) j 0)) j ((F 8) j) _ (by omega)) (cwV 2 hts gX3_decide_X3_leases rfl rfl rfl (by decide +kernel) ⟨Nat.le_of_ble_eq_true rfl, Nat.le_of_ble_eq_true rfl⟩) ⟨gblind, va_recv hK hP (ci := 3) (q0 := 0) rfl rfl, gpreT (X := ([] : va_W)) hE hK hP hD hS hA⟩ rfl rfl hl.1 rfl (lv_room (Nat.le_of_ble_eq_true rfl)) dX3_decide_66 ⟨Nat.le_of_ble_eq_true rfl, Nat.le_of_ble_eq_true rfl⟩) hP hD hS hA cM_fst (fun H locs hw hP hD hS => ?_)
            have hP : va_P G vwCl (cM T x1 A (upd I1 17 0) (mLease (updA F 3 (upd (F 3) j 0)) j ((F 8) j) ((upd I1 17 0) 0))) H := hP
            have hD : va_D (va_A (cM T x1 A I1 F) s.heap.size) (cM T x1 A (upd I1 17 0) (mLease (updA F 3 (upd (F 3) j 0)) j ((F 8) j) ((upd I1 17 0) 0))) := hD
            refine lv_aload_n hx hb dX3_decide_69 rfl (lv_at hl 1 rfl) ?_
            refine va_get (D := G) (ci := 3) (v := .ref (A 3)) (C := RX3) (T := TX3) (N := 18) hx hb hts hiRX3 hown hK hP 0 rfl rfl 3 (by decide) (hts (.fieldLink RX3 13 "NameAuctionModel" "state" "[I") (by decide +kernel)) (fun _ h9 => h9) rfl dX3_decide_70 ?_
            refine lv_iload_n hx hb dX3_decide_73 rfl (lv_at hl 2 rfl) ?_
            refine giald (j := j) hx hb hK hP 2 0 rfl rfl (show (nI j : Int32) = nI j from rfl) (by omega) (by decide) dX3_decide_74 ?_
            exact W.iret (v := ((mLease (updA F 3 (upd (F 3) j 0)) j ((F 8) j) ((upd I1 17 0) 0)) 3) j) hx hb hr (fun t ht9 hW => ⟨⟨((mLease (updA F 3 (upd (F 3) j 0)) j ((F 8) j) ((upd I1 17 0) 0)) 3) j, (), rfl, (show (((mLease (updA F 3 (upd (F 3) j 0)) j ((F 8) j) ((upd I1 17 0) 0)) 3) j) = (mDecF I1 F j p1 3 j) from by simp [mDecF, mLease, upd, updA, c21, c32, c44, c55, t7]).trans (if_pos (show (cDecide F j p0) = 0 by simp [cDecide, c21, c32, c44, c55, t7])).symm, gBi ht9 (gfin hP (mfinT (by simp [cDecide, c21, c32, c44, c55, t7]) (rfl) (by simp [mDecF, c21, c32, c44, c55, t7] <;> rfl)))⟩, hS.F ht9⟩) hS.2.2 dX3_decide_75
      · exact absurd c32 (by decide)
  · skip
    have t7 : (okI p0 16) = false := bI_f c7
    refine lv_iconst (v := 1) hx hb dX3_decide_10 (by decide) ?_
    refine lv_goto (tgt := 29) hx hb dX3_decide_11 (by decide) ?_
    refine gciT (X := ([] : va_W)) (va_runV (As := [.int 1]) (rest := []) ⟨hx, hb, hml, hown, hts⟩ (kX3_fails l G T x1 A I1 F 1 _) (cwV 1 hts gX3_decide_X3_fails rfl rfl rfl (by decide +kernel) ⟨Nat.le_of_ble_eq_true rfl, Nat.le_of_ble_eq_true rfl⟩) ⟨gblind, va_recv hK hP (ci := 3) (q0 := 0) rfl rfl, gpreT (X := ([] : va_W)) hE hK hP hD hS hA⟩ rfl rfl hl.1 rfl (lv_room (Nat.le_of_ble_eq_true rfl)) dX3_decide_29 ⟨Nat.le_of_ble_eq_true rfl, Nat.le_of_ble_eq_true rfl⟩) hP hD hS hA cM_fst (fun r9 H locs hw hP hD hS => ?_)
    have hP : va_P G vwCl (cM T x1 A (upd I1 17 1) F) H := hP
    have hD : va_D (va_A (cM T x1 A I1 F) s.heap.size) (cM T x1 A (upd I1 17 1) F) := hD
    subst hw
    refine gtop (y := 1) (by decide) ?_
    refine lv_if_eq (tgt := 37) hx hb dX3_decide_32 (by decide) (fun c32 => ?_) (fun c32 => ?_)
    · exact absurd c32 (by decide)
    · skip
      refine lv_iconst (v := 0) hx hb dX3_decide_35 (by decide) ?_
      exact W.iret (v := 0) hx hb hr (fun t ht9 hW => ⟨⟨0, (), rfl, (if_neg (by simp [cDecide, c32, t7])).symm, gBi ht9 (gfin hP (mfinF (by simp [cDecide, c32, t7]) (congrArg (upd I1 17) (by simp [w13, cDecide, c32, t7])) rfl))⟩, hS.F ht9⟩) hS.2.2 dX3_decide_36
