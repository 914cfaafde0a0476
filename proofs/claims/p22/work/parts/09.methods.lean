/-! THE CLASS'S METHODS on one name, one resolver -/
def kDep (p0 p1 : Int32) : Nat := if okI p0 6 then (if okR p1 1 100000 then 0 else 2) else 1
def kOwn (p0 : Int32) : Nat := if okI p0 6 then 0 else 1
def kNam (p0 : Int32) : Nat := if okI p0 16 then 0 else 1
def kRes (p0 : Int32) : Nat := if okI p0 3 then 0 else 1
def kRN (p0 p1 : Int32) : Nat := if (okI p0 3 && okI p1 16) = true then 0 else 1
def kBid (p0 p1 p2 : Int32) (N : Nat → Int32) : Nat := if okI p0 6 then (if okI p1 16 then (if okR p2 10 100000 then (if N 0 = 0 then 0 else if N 0 = 1 then 0 else 3) else 2) else 1) else 1
def kRenew (D mny N : Nat → Int32) (p0 p1 : Int32) : Nat := if okI p0 16 then (if okR p1 1 5 then (if sHeld (N 0) = 0 then 3 else if D 3 + 600 < N 3 + p1 * 100 then 3 else if sCan mny (N 1) (p1 * 20) = 0 then 3 else 0) else 2) else 1
def kRedeem (mny N : Nat → Int32) (p0 : Int32) : Nat := if okI p0 16 then (if N 0 = 4 then (if sCan mny (N 1) 50 = 0 then 3 else 0) else 3) else 1
def kSetRec (N : Nat → Int32) (p0 p1 p2 : Int32) : Nat := if okI p0 16 then (if okR p1 0 999 then (if okR p2 1 50 then (if N 0 = 2 then 0 else 3) else 2) else 2) else 1
def kDispute (N : Nat → Int32) (p0 p1 : Int32) : Nat := if okI p0 6 then (if okI p1 16 then (if N 0 = 1 then (if N 1 = p0 then 3 else 0) else if sHeld (N 0) = 0 then 3 else if N 1 = p0 then 3 else 0) else 1) else 1
def kDecide (N : Nat → Int32) (p0 : Int32) : Nat := if okI p0 16 then (if N 0 = 5 then 0 else 3) else 1
def sBidN (N D : Nat → Int32) : Nat → Int32 := if N 0 = 0 then upd (upd N 0 1) 2 (D 3 + 5) else N
/-- lookUp: what the resolver keeps then -/
def sLook (b : Int32) (k : Nat → Int32) (i : Nat) (v : Int32) : Nat → Int32 := if b = 0 then upd k i v else k
/-- isStale -/
def sStale (b x y : Int32) : Int32 := if b = 0 then 0 else if x = y then 0 else 1
abbrev PX2_deposit (G : va_G) (T : Nat → ClassId) (na mo nm rs : Nat) (D mny : Nat → Int32) (nA rA : Nat → Nat) (p0 p1 : Int32) (i : Nat) (sz : Nat) : Array Value → State → Prop := gPc G T [.ref na, .int p0, .int p1] (cA T na mo nm rs D mny nA rA) sz
abbrev QX2_deposit (G : va_G) (T : Nat → ClassId) (na mo nm rs : Nat) (D mny : Nat → Int32) (nA rA : Nat → Nat) (p0 p1 : Int32) (i : Nat) (sz : Nat) : Array Value → State → Outcome → State → Prop := va_Qi (fun (r : Int32) (_ : Unit) => kDep p0 p1 = 0 ∧ r = mny i + p1) (gB G (cA T na mo nm rs D (upd mny i (mny i + p1)) nA rA)) (va_A (cA T na mo nm rs D mny nA rA) sz)
abbrev XX2_deposit (G : va_G) (T : Nat → ClassId) (na mo nm rs : Nat) (D mny : Nat → Int32) (nA rA : Nat → Nat) (p0 p1 : Int32) (i : Nat) (sz : Nat) : String → State → State → Prop := gX G (cA T na mo nm rs D mny nA rA) sz (fun E => pK (kDep p0 p1) E)
set_option maxHeartbeats 4000000 in
set_option maxRecDepth 100000 in
theorem kX2_deposit (l : Launch) (hl0 : l.stackTraces = false) (G : va_G) (T : Nat → ClassId) (na mo nm rs : Nat) (D mny : Nat → Int32) (nA rA : Nat → Nat) (p0 p1 : Int32) (i : Nat) (sz : Nat) (hi : okI p0 6 = true → p0 = nI i ∧ i < 6) : vx_Met l yX2_deposit wsX2_deposit ({ frames := 7, cells := 2, slots := 12, locals := 103 } : Room) (PX2_deposit G T na mo nm rs D mny nA rA p0 p1 i sz) (QX2_deposit G T na mo nm rs D mny nA rA p0 p1 i sz) (XX2_deposit G T na mo nm rs D mny nA rA p0 p1 i sz) 2 12 (va_A (cA T na mo nm rs D mny nA rA) sz) := by
  refine vx_ofW (cc := cX2_deposit) (maxL := 3) (ret := (some .int)) (by decide) rfl ?_
  intro p e s m args below meth c s₁ B hml ht hv
  obtain ⟨rfl, hsz, hP, hK, hD0, hE⟩ := hv
  have hx := B.exec
  have hb := B.bytes
  have hr := B.returns
  have hts := atoms_spec (ws := wsX2_deposit) B.pre
  have hown : s.vm.findClass RX2 = some m.cls := findClass_of_methodNamed B.named
  have hlocks := B.notSynchronized
  subst hsz
  have hD := hD0.self (sz := s.heap.size)
  have hA : ∀ q : Nat, s.heap.size ≤ q → (va_A (cA T na mo nm rs D mny nA rA) s.heap.size) q := fun q h => Or.inr h
  have hS : va_S (va_A (cA T na mo nm rs D mny nA rA) s.heap.size) s.heap s.heap [] := va_S.rf
  have hiRX2 : ∀ w ∈ u_ws RX2 TX2 6, w ∈ wsX2_deposit := by decide +kernel
  have hl := lv_entry ([.ref na, .int p0, .int p1]) (n := 3) (Nat.le_of_ble_eq_true rfl)
  rw [lg_entry_eq]
  generalize (lg_sl ([.ref na, .int p0, .int p1]) ++ List.replicate (3 - (lg_sl ([.ref na, .int p0, .int p1])).length) Slot.unset).toArray = ls at hl ⊢
  have hl : lv_has ls 3 [(0, .ref na), (1, .int p0), (2, .int p1)] := hl
  have hP : va_P G vwCl (cA T na mo nm rs D mny nA rA) s.heap := hP
  refine lv_iload_n hx hb dX2_deposit_0 rfl (lv_at hl 1 rfl) ?_
  refine lv_bipush (v := 6) hx hb dX2_deposit_1 (by decide) ?_
  refine gxv (vx_runS (As := [.int p0, .int 6]) (rest := []) ⟨hx, hb, hml, hown, hts⟩ (kX2_checkIndex l hl0 G T p0 6 _) (va_cwS 2 hts gX2_deposit_X2_checkIndex rfl rfl rfl (by decide +kernel) ⟨Nat.le_of_ble_eq_true rfl, Nat.le_of_ble_eq_true rfl⟩) ⟨gblind, gpre hE hK hP hD hS hA [] rfl rfl⟩ rfl rfl hl.1 rfl (lv_room (Nat.le_of_ble_eq_true rfl)) dX2_deposit_3 ⟨Nat.le_of_ble_eq_true rfl, Nat.le_of_ble_eq_true rfl⟩) hP hD hS hA [] rfl rfl (fun E9 ce9 q9 H locs he hP hD hS hce hcv hcl => ?_) (fun H locs hw hP hD hS => ?_)
  · skip
    have hP : va_P G vwCl (cA T na mo nm rs D mny nA rA) H := hP
    have hD : va_D (va_A (cA T na mo nm rs D mny nA rA) s.heap.size) (cA T na mo nm rs D mny nA rA) := hD
    exact gout (pe := fun E => pK (kDep p0 p1) E) ht hlocks (by obtain ⟨h8, h9⟩ := he; subst h8; simp [pK, kDep, h9]) hP hS hce hcv hcl (Nat.le_of_ble_eq_true rfl) (Nat.le_of_ble_eq_true rfl)
  · skip
    have hP : va_P G vwCl (cA T na mo nm rs D mny nA rA) H := hP
    have hD : va_D (va_A (cA T na mo nm rs D mny nA rA) s.heap.size) (cA T na mo nm rs D mny nA rA) := hD
    have hok3 := hw
    have e0 := hi hok3
    refine lv_iload_n hx hb dX2_deposit_6 rfl (lv_at hl 2 rfl) ?_
    refine lv_iconst (v := 1) hx hb dX2_deposit_7 (by decide) ?_
    refine lv_ldc (v := 100000) hx hb hown (hts (.constant RX2 31 100000) (by decide +kernel)) dX2_deposit_8 ?_
    refine gxv (vx_runS (As := [.int p1, .int 1, .int 100000]) (rest := []) ⟨hx, hb, hml, hown, hts⟩ (kX2_checkRange l hl0 G T p1 1 100000 _) (va_cwS 3 hts gX2_deposit_X2_checkRange rfl rfl rfl (by decide +kernel) ⟨Nat.le_of_ble_eq_true rfl, Nat.le_of_ble_eq_true rfl⟩) ⟨gblind, gpre hE hK hP hD hS hA [] rfl rfl⟩ rfl rfl hl.1 rfl (lv_room (Nat.le_of_ble_eq_true rfl)) dX2_deposit_10 ⟨Nat.le_of_ble_eq_true rfl, Nat.le_of_ble_eq_true rfl⟩) hP hD hS hA [] rfl rfl (fun E9 ce9 q9 H locs he hP hD hS hce hcv hcl => ?_) (fun H locs hw hP hD hS => ?_)
    · skip
      have hP : va_P G vwCl (cA T na mo nm rs D mny nA rA) H := hP
      have hD : va_D (va_A (cA T na mo nm rs D mny nA rA) s.heap.size) (cA T na mo nm rs D mny nA rA) := hD
      exact gout (pe := fun E => pK (kDep p0 p1) E) ht hlocks (by obtain ⟨h8, h9⟩ := he; subst h8; simp [pK, kDep, h9, hok3]) hP hS hce hcv hcl (Nat.le_of_ble_eq_true rfl) (Nat.le_of_ble_eq_true rfl)
    · skip
      have hP : va_P G vwCl (cA T na mo nm rs D mny nA rA) H := hP
      have hD : va_D (va_A (cA T na mo nm rs D mny nA rA) s.heap.size) (cA T na mo nm rs D mny nA rA) := hD
      have hok10 := hw
      refine lv_aload_n hx hb dX2_deposit_13 rfl (lv_at hl 0 rfl) ?_
      refine va_get (D := G) (ci := 2) (v := .ref mo) (C := RX2) (T := TX2) (N := 6) hx hb hts hiRX2 hown hK hP 0 rfl rfl 0 (by decide) (hts (.fieldLink RX2 9 "NameAuction" "money" "[I") (by decide +kernel)) (fun _ h9 => h9) rfl dX2_deposit_14 ?_
      refine lv_iload_n hx hb dX2_deposit_17 rfl (lv_at hl 1 rfl) ?_
      refine lv_dup2_11 hx hb dX2_deposit_18 rfl rfl ?_
      refine giald (j := i) hx hb hK hP 1 0 rfl rfl e0.1 e0.2 (by decide) dX2_deposit_19 ?_
      refine lv_iload_n hx hb dX2_deposit_20 rfl (lv_at hl 2 rfl) ?_
      refine lv_iadd hx hb dX2_deposit_21 ?_
      refine giast (j := i) hx hb hK hP hD hS 1 0 rfl rfl e0.1 e0.2 (by decide) dX2_deposit_22 (fun H locs hP hD hS => ?_)
      have hP : va_P G vwCl (cA T na mo nm rs D (upd mny i ((mny i) + p1)) nA rA) H := hP
      have hD : va_D (va_A (cA T na mo nm rs D mny nA rA) s.heap.size) (cA T na mo nm rs D (upd mny i ((mny i) + p1)) nA rA) := hD
      refine lv_aload_n hx hb dX2_deposit_23 rfl (lv_at hl 0 rfl) ?_
      refine va_get (D := G) (ci := 2) (v := .ref mo) (C := RX2) (T := TX2) (N := 6) hx hb hts hiRX2 hown hK hP 0 rfl rfl 0 (by decide) (hts (.fieldLink RX2 9 "NameAuction" "money" "[I") (by decide +kernel)) (fun _ h9 => h9) rfl dX2_deposit_24 ?_
      refine lv_iload_n hx hb dX2_deposit_27 rfl (lv_at hl 1 rfl) ?_
      refine giald (j := i) hx hb hK hP 1 0 rfl rfl e0.1 e0.2 (by decide) dX2_deposit_28 ?_
      refine vx_ret ?_
      exact W.iret (v := (upd mny i ((mny i) + p1)) i) hx hb hr (fun t ht9 hW => ⟨⟨(upd mny i ((mny i) + p1)) i, (), rfl, ⟨(by simp [kDep, hok3, hok10]), by simp [upd]⟩, gBi ht9 (gfin hP (rfl))⟩, hS.F ht9⟩) hS.2.2 dX2_deposit_29
abbrev PX2_funds (G : va_G) (T : Nat → ClassId) (na mo nm rs : Nat) (D mny : Nat → Int32) (nA rA : Nat → Nat) (p0 : Int32) (i : Nat) (sz : Nat) : Array Value → State → Prop := gPc G T [.ref na, .int p0] (cA T na mo nm rs D mny nA rA) sz
abbrev QX2_funds (G : va_G) (T : Nat → ClassId) (na mo nm rs : Nat) (D mny : Nat → Int32) (nA rA : Nat → Nat) (p0 : Int32) (i : Nat) (sz : Nat) : Array Value → State → Outcome → State → Prop := va_Qi (fun (r : Int32) (_ : Unit) => kOwn p0 = 0 ∧ r = mny i) (gB G (cA T na mo nm rs D mny nA rA)) (va_A (cA T na mo nm rs D mny nA rA) sz)
abbrev XX2_funds (G : va_G) (T : Nat → ClassId) (na mo nm rs : Nat) (D mny : Nat → Int32) (nA rA : Nat → Nat) (p0 : Int32) (i : Nat) (sz : Nat) : String → State → State → Prop := gX G (cA T na mo nm rs D mny nA rA) sz (fun E => pK (kOwn p0) E)
set_option maxHeartbeats 4000000 in
set_option maxRecDepth 100000 in
theorem kX2_funds (l : Launch) (hl0 : l.stackTraces = false) (G : va_G) (T : Nat → ClassId) (na mo nm rs : Nat) (D mny : Nat → Int32) (nA rA : Nat → Nat) (p0 : Int32) (i : Nat) (sz : Nat) (hi : okI p0 6 = true → p0 = nI i ∧ i < 6) : vx_Met l yX2_funds wsX2_funds ({ frames := 7, cells := 1, slots := 6, locals := 102 } : Room) (PX2_funds G T na mo nm rs D mny nA rA p0 i sz) (QX2_funds G T na mo nm rs D mny nA rA p0 i sz) (XX2_funds G T na mo nm rs D mny nA rA p0 i sz) 1 6 (va_A (cA T na mo nm rs D mny nA rA) sz) := by
  refine vx_ofW (cc := cX2_funds) (maxL := 2) (ret := (some .int)) (by decide) rfl ?_
  intro p e s m args below meth c s₁ B hml ht hv
  obtain ⟨rfl, hsz, hP, hK, hD0, hE⟩ := hv
  have hx := B.exec
  have hb := B.bytes
  have hr := B.returns
  have hts := atoms_spec (ws := wsX2_funds) B.pre
  have hown : s.vm.findClass RX2 = some m.cls := findClass_of_methodNamed B.named
  have hlocks := B.notSynchronized
  subst hsz
  have hD := hD0.self (sz := s.heap.size)
  have hA : ∀ q : Nat, s.heap.size ≤ q → (va_A (cA T na mo nm rs D mny nA rA) s.heap.size) q := fun q h => Or.inr h
  have hS : va_S (va_A (cA T na mo nm rs D mny nA rA) s.heap.size) s.heap s.heap [] := va_S.rf
  have hiRX2 : ∀ w ∈ u_ws RX2 TX2 6, w ∈ wsX2_funds := by decide +kernel
  have hl := lv_entry ([.ref na, .int p0]) (n := 2) (Nat.le_of_ble_eq_true rfl)
  rw [lg_entry_eq]
  generalize (lg_sl ([.ref na, .int p0]) ++ List.replicate (2 - (lg_sl ([.ref na, .int p0])).length) Slot.unset).toArray = ls at hl ⊢
  have hl : lv_has ls 2 [(0, .ref na), (1, .int p0)] := hl
  have hP : va_P G vwCl (cA T na mo nm rs D mny nA rA) s.heap := hP
  refine lv_iload_n hx hb dX2_funds_0 rfl (lv_at hl 1 rfl) ?_
  refine lv_bipush (v := 6) hx hb dX2_funds_1 (by decide) ?_
  refine gxv (vx_runS (As := [.int p0, .int 6]) (rest := []) ⟨hx, hb, hml, hown, hts⟩ (kX2_checkIndex l hl0 G T p0 6 _) (va_cwS 2 hts gX2_funds_X2_checkIndex rfl rfl rfl (by decide +kernel) ⟨Nat.le_of_ble_eq_true rfl, Nat.le_of_ble_eq_true rfl⟩) ⟨gblind, gpre hE hK hP hD hS hA [] rfl rfl⟩ rfl rfl hl.1 rfl (lv_room (Nat.le_of_ble_eq_true rfl)) dX2_funds_3 ⟨Nat.le_of_ble_eq_true rfl, Nat.le_of_ble_eq_true rfl⟩) hP hD hS hA [] rfl rfl (fun E9 ce9 q9 H locs he hP hD hS hce hcv hcl => ?_) (fun H locs hw hP hD hS => ?_)
  · skip
    have hP : va_P G vwCl (cA T na mo nm rs D mny nA rA) H := hP
    have hD : va_D (va_A (cA T na mo nm rs D mny nA rA) s.heap.size) (cA T na mo nm rs D mny nA rA) := hD
    exact gout (pe := fun E => pK (kOwn p0) E) ht hlocks (by obtain ⟨h8, h9⟩ := he; subst h8; simp [pK, kOwn, h9]) hP hS hce hcv hcl (Nat.le_of_ble_eq_true rfl) (Nat.le_of_ble_eq_true rfl)
  · skip
    have hP : va_P G vwCl (cA T na mo nm rs D mny nA rA) H := hP
    have hD : va_D (va_A (cA T na mo nm rs D mny nA rA) s.heap.size) (cA T na mo nm rs D mny nA rA) := hD
    have hok3 := hw
    have e0 := hi hok3
    refine lv_aload_n hx hb dX2_funds_6 rfl (lv_at hl 0 rfl) ?_
    refine va_get (D := G) (ci := 2) (v := .ref mo) (C := RX2) (T := TX2) (N := 6) hx hb hts hiRX2 hown hK hP 0 rfl rfl 0 (by decide) (hts (.fieldLink RX2 9 "NameAuction" "money" "[I") (by decide +kernel)) (fun _ h9 => h9) rfl dX2_funds_7 ?_
    refine lv_iload_n hx hb dX2_funds_10 rfl (lv_at hl 1 rfl) ?_
    refine giald (j := i) hx hb hK hP 1 0 rfl rfl e0.1 e0.2 (by decide) dX2_funds_11 ?_
    refine vx_ret ?_
    exact W.iret (v := mny i) hx hb hr (fun t ht9 hW => ⟨⟨mny i, (), rfl, ⟨(by simp [kOwn, hok3]), rfl⟩, gBi ht9 (gfin hP (rfl))⟩, hS.F ht9⟩) hS.2.2 dX2_funds_12
abbrev PX2_bid (G : va_G) (T : Nat → ClassId) (na mo nm rs : Nat) (D mny : Nat → Int32) (nA rA : Nat → Nat) (j x2 x3 : Nat) (N f g : Nat → Int32) (p0 p1 p2 : Int32) (i : Nat) (sz : Nat) : Array Value → State → Prop := gPc G T [.ref na, .int p0, .int p1, .int p2] ((cA T na mo nm rs D mny nA rA) ++ (cN T (nA j) x2 x3 N f g)) sz
abbrev QX2_bid (G : va_G) (T : Nat → ClassId) (na mo nm rs : Nat) (D mny : Nat → Int32) (nA rA : Nat → Nat) (j x2 x3 : Nat) (N f g : Nat → Int32) (p0 p1 p2 : Int32) (i : Nat) (sz : Nat) : Array Value → State → Outcome → State → Prop := va_Qi (fun (r : Int32) (_ : Unit) => kBid p0 p1 p2 N = 0 ∧ r = sBidN N D 2) (gB G ((cA T na mo nm rs (upd D 5 (D 5 + 1)) mny nA rA) ++ (cN T (nA j) x2 x3 (sBidN N D) (upd f i p2) (upd g i (D 5 + 1))))) (va_A ((cA T na mo nm rs D mny nA rA) ++ (cN T (nA j) x2 x3 N f g)) sz)
abbrev XX2_bid (G : va_G) (T : Nat → ClassId) (na mo nm rs : Nat) (D mny : Nat → Int32) (nA rA : Nat → Nat) (j x2 x3 : Nat) (N f g : Nat → Int32) (p0 p1 p2 : Int32) (i : Nat) (sz : Nat) : String → State → State → Prop := gX G ((cA T na mo nm rs D mny nA rA) ++ (cN T (nA j) x2 x3 N f g)) sz (fun E => pK (kBid p0 p1 p2 N) E)
set_option maxHeartbeats 4000000 in
set_option maxRecDepth 100000 in
theorem kX2_bid (l : Launch) (hl0 : l.stackTraces = false) (G : va_G) (T : Nat → ClassId) (na mo nm rs : Nat) (D mny : Nat → Int32) (nA rA : Nat → Nat) (j x2 x3 : Nat) (N f g : Nat → Int32) (p0 p1 p2 : Int32) (i : Nat) (sz : Nat) (hi : okI p0 6 = true → p0 = nI i ∧ i < 6) (hj : okI p1 16 = true → p1 = nI j ∧ j < 16) : vx_Met l yX2_bid wsX2_bid ({ frames := 7, cells := 4, slots := 24, locals := 103 } : Room) (PX2_bid G T na mo nm rs D mny nA rA j x2 x3 N f g p0 p1 p2 i sz) (QX2_bid G T na mo nm rs D mny nA rA j x2 x3 N f g p0 p1 p2 i sz) (XX2_bid G T na mo nm rs D mny nA rA j x2 x3 N f g p0 p1 p2 i sz) 4 24 (va_A ((cA T na mo nm rs D mny nA rA) ++ (cN T (nA j) x2 x3 N f g)) sz) := by
  refine vx_ofW (cc := cX2_bid) (maxL := 5) (ret := (some .int)) (by decide) rfl ?_
  intro p e s m args below meth c s₁ B hml ht hv
  obtain ⟨rfl, hsz, hP, hK, hD0, hE⟩ := hv
  have hx := B.exec
  have hb := B.bytes
  have hr := B.returns
  have hts := atoms_spec (ws := wsX2_bid) B.pre
  have hown : s.vm.findClass RX2 = some m.cls := findClass_of_methodNamed B.named
  have hlocks := B.notSynchronized
  subst hsz
  have hD := hD0.self (sz := s.heap.size)
  have hA : ∀ q : Nat, s.heap.size ≤ q → (va_A ((cA T na mo nm rs D mny nA rA) ++ (cN T (nA j) x2 x3 N f g)) s.heap.size) q := fun q h => Or.inr h
  have hS : va_S (va_A ((cA T na mo nm rs D mny nA rA) ++ (cN T (nA j) x2 x3 N f g)) s.heap.size) s.heap s.heap [] := va_S.rf
  have hiRX0 : ∀ w ∈ u_ws RX0 TX0 11, w ∈ wsX2_bid := by decide +kernel
  have hiRX2 : ∀ w ∈ u_ws RX2 TX2 6, w ∈ wsX2_bid := by decide +kernel
  have hl := lv_entry ([.ref na, .int p0, .int p1, .int p2]) (n := 5) (Nat.le_of_ble_eq_true rfl)
  rw [lg_entry_eq]
  generalize (lg_sl ([.ref na, .int p0, .int p1, .int p2]) ++ List.replicate (5 - (lg_sl ([.ref na, .int p0, .int p1, .int p2])).length) Slot.unset).toArray = ls at hl ⊢
  have hl : lv_has ls 5 [(0, .ref na), (1, .int p0), (2, .int p1), (3, .int p2)] := hl
  have hP : va_P G vwCl ((cA T na mo nm rs D mny nA rA) ++ (cN T (nA j) x2 x3 N f g)) s.heap := hP
  refine lv_iload_n hx hb dX2_bid_0 rfl (lv_at hl 1 rfl) ?_
  refine lv_bipush (v := 6) hx hb dX2_bid_1 (by decide) ?_
  refine gxv (vx_runS (As := [.int p0, .int 6]) (rest := []) ⟨hx, hb, hml, hown, hts⟩ (kX2_checkIndex l hl0 G T p0 6 _) (va_cwS 2 hts gX2_bid_X2_checkIndex rfl rfl rfl (by decide +kernel) ⟨Nat.le_of_ble_eq_true rfl, Nat.le_of_ble_eq_true rfl⟩) ⟨gblind, gpre hE hK hP hD hS hA [] rfl rfl⟩ rfl rfl hl.1 rfl (lv_room (Nat.le_of_ble_eq_true rfl)) dX2_bid_3 ⟨Nat.le_of_ble_eq_true rfl, Nat.le_of_ble_eq_true rfl⟩) hP hD hS hA [] rfl rfl (fun E9 ce9 q9 H locs he hP hD hS hce hcv hcl => ?_) (fun H locs hw hP hD hS => ?_)
  · skip
    have hP : va_P G vwCl ((cA T na mo nm rs D mny nA rA) ++ (cN T (nA j) x2 x3 N f g)) H := hP
    have hD : va_D (va_A ((cA T na mo nm rs D mny nA rA) ++ (cN T (nA j) x2 x3 N f g)) s.heap.size) ((cA T na mo nm rs D mny nA rA) ++ (cN T (nA j) x2 x3 N f g)) := hD
    exact gout (pe := fun E => pK (kBid p0 p1 p2 N) E) ht hlocks (by obtain ⟨h8, h9⟩ := he; subst h8; simp [pK, kBid, h9]) hP hS hce hcv hcl (Nat.le_of_ble_eq_true rfl) (Nat.le_of_ble_eq_true rfl)
  · skip
    have hP : va_P G vwCl ((cA T na mo nm rs D mny nA rA) ++ (cN T (nA j) x2 x3 N f g)) H := hP
    have hD : va_D (va_A ((cA T na mo nm rs D mny nA rA) ++ (cN T (nA j) x2 x3 N f g)) s.heap.size) ((cA T na mo nm rs D mny nA rA) ++ (cN T (nA j) x2 x3 N f g)) := hD
    have hok3 := hw
    have e0 := hi hok3
    refine lv_iload_n hx hb dX2_bid_6 rfl (lv_at hl 2 rfl) ?_
    refine lv_bipush (v := 16) hx hb dX2_bid_7 (by decide) ?_
    refine gxv (vx_runS (As := [.int p1, .int 16]) (rest := []) ⟨hx, hb, hml, hown, hts⟩ (kX2_checkIndex l hl0 G T p1 16 _) (va_cwS 2 hts gX2_bid_X2_checkIndex rfl rfl rfl (by decide +kernel) ⟨Nat.le_of_ble_eq_true rfl, Nat.le_of_ble_eq_true rfl⟩) ⟨gblind, gpre hE hK hP hD hS hA [] rfl rfl⟩ rfl rfl hl.1 rfl (lv_room (Nat.le_of_ble_eq_true rfl)) dX2_bid_9 ⟨Nat.le_of_ble_eq_true rfl, Nat.le_of_ble_eq_true rfl⟩) hP hD hS hA [] rfl rfl (fun E9 ce9 q9 H locs he hP hD hS hce hcv hcl => ?_) (fun H locs hw hP hD hS => ?_)
    · skip
      have hP : va_P G vwCl ((cA T na mo nm rs D mny nA rA) ++ (cN T (nA j) x2 x3 N f g)) H := hP
      have hD : va_D (va_A ((cA T na mo nm rs D mny nA rA) ++ (cN T (nA j) x2 x3 N f g)) s.heap.size) ((cA T na mo nm rs D mny nA rA) ++ (cN T (nA j) x2 x3 N f g)) := hD
      exact gout (pe := fun E => pK (kBid p0 p1 p2 N) E) ht hlocks (by obtain ⟨h8, h9⟩ := he; subst h8; simp [pK, kBid, h9, hok3]) hP hS hce hcv hcl (Nat.le_of_ble_eq_true rfl) (Nat.le_of_ble_eq_true rfl)
    · skip
      have hP : va_P G vwCl ((cA T na mo nm rs D mny nA rA) ++ (cN T (nA j) x2 x3 N f g)) H := hP
      have hD : va_D (va_A ((cA T na mo nm rs D mny nA rA) ++ (cN T (nA j) x2 x3 N f g)) s.heap.size) ((cA T na mo nm rs D mny nA rA) ++ (cN T (nA j) x2 x3 N f g)) := hD
      have hok9 := hw
      have e1 := hj hok9
      refine lv_iload_n hx hb dX2_bid_12 rfl (lv_at hl 3 rfl) ?_
      refine lv_bipush (v := 10) hx hb dX2_bid_13 (by decide) ?_
      refine lv_ldc (v := 100000) hx hb hown (hts (.constant RX2 31 100000) (by decide +kernel)) dX2_bid_15 ?_
      refine gxv (vx_runS (As := [.int p2, .int 10, .int 100000]) (rest := []) ⟨hx, hb, hml, hown, hts⟩ (kX2_checkRange l hl0 G T p2 10 100000 _) (va_cwS 3 hts gX2_bid_X2_checkRange rfl rfl rfl (by decide +kernel) ⟨Nat.le_of_ble_eq_true rfl, Nat.le_of_ble_eq_true rfl⟩) ⟨gblind, gpre hE hK hP hD hS hA [] rfl rfl⟩ rfl rfl hl.1 rfl (lv_room (Nat.le_of_ble_eq_true rfl)) dX2_bid_17 ⟨Nat.le_of_ble_eq_true rfl, Nat.le_of_ble_eq_true rfl⟩) hP hD hS hA [] rfl rfl (fun E9 ce9 q9 H locs he hP hD hS hce hcv hcl => ?_) (fun H locs hw hP hD hS => ?_)
      · skip
        have hP : va_P G vwCl ((cA T na mo nm rs D mny nA rA) ++ (cN T (nA j) x2 x3 N f g)) H := hP
        have hD : va_D (va_A ((cA T na mo nm rs D mny nA rA) ++ (cN T (nA j) x2 x3 N f g)) s.heap.size) ((cA T na mo nm rs D mny nA rA) ++ (cN T (nA j) x2 x3 N f g)) := hD
        exact gout (pe := fun E => pK (kBid p0 p1 p2 N) E) ht hlocks (by obtain ⟨h8, h9⟩ := he; subst h8; simp [pK, kBid, h9, hok3, hok9]) hP hS hce hcv hcl (Nat.le_of_ble_eq_true rfl) (Nat.le_of_ble_eq_true rfl)
      · skip
        have hP : va_P G vwCl ((cA T na mo nm rs D mny nA rA) ++ (cN T (nA j) x2 x3 N f g)) H := hP
        have hD : va_D (va_A ((cA T na mo nm rs D mny nA rA) ++ (cN T (nA j) x2 x3 N f g)) s.heap.size) ((cA T na mo nm rs D mny nA rA) ++ (cN T (nA j) x2 x3 N f g)) := hD
        have hok17 := hw
        refine lv_aload_n hx hb dX2_bid_20 rfl (lv_at hl 0 rfl) ?_
        refine va_get (D := G) (ci := 2) (v := .ref nm) (C := RX2) (T := TX2) (N := 6) hx hb hts hiRX2 hown hK hP 0 rfl rfl 1 (by decide) (hts (.fieldLink RX2 15 "NameAuction" "names" "[LNameAuction$Name;") (by decide +kernel)) (fun _ h9 => h9) rfl dX2_bid_21 ?_
        refine lv_iload_n hx hb dX2_bid_24 rfl (lv_at hl 2 rfl) ?_
        refine galdr (j := j) hx hb hK hP 2 2 rfl rfl e1.1 e1.2 (by decide) dX2_bid_25 ?_
        refine lv_astore (lv' := [(4, .ref (nA j)), (0, .ref na), (1, .int p0), (2, .int p1), (3, .int p2)]) hx hb dX2_bid_26 hl (by decide) rfl (fun ls hl => ?_)
        refine lv_aload hx hb dX2_bid_28 (lv_at hl 0 rfl) ?_
        refine va_getN (D := G) (ci := 0) (v := .int (N 0)) (C := RX0) (T := TX0) (N := 11) hx hb hts hiRX0 hown hK hP 4 rfl rfl 0 (by decide) (va_Nw.use rfl (hE.1 (.fieldLinkNest RX2 36 "NameAuction$Name" "phase" "I" RX2) (by decide +kernel))) (fun _ h9 => h9) rfl dX2_bid_30 ?_
        refine lv_if_eq (tgt := 45) hx hb dX2_bid_33 (by decide) (fun c33 => ?_) (fun c33 => ?_)
        · skip
          refine lv_iconst (v := 1) hx hb dX2_bid_45 (by decide) ?_
          refine lv_goto (tgt := 50) hx hb dX2_bid_46 (by decide) ?_
          refine gxv (vx_runS (As := [.int 1]) (rest := []) ⟨hx, hb, hml, hown, hts⟩ (kX2_checkPossible l hl0 G T 1 _) (va_cwS 1 hts gX2_bid_X2_checkPossible rfl rfl rfl (by decide +kernel) ⟨Nat.le_of_ble_eq_true rfl, Nat.le_of_ble_eq_true rfl⟩) ⟨gblind, gpre hE hK hP hD hS hA [] rfl rfl⟩ rfl rfl hl.1 rfl (lv_room (Nat.le_of_ble_eq_true rfl)) dX2_bid_50 ⟨Nat.le_of_ble_eq_true rfl, Nat.le_of_ble_eq_true rfl⟩) hP hD hS hA [] rfl rfl (fun E9 ce9 q9 H locs he hP hD hS hce hcv hcl => ?_) (fun H locs hw hP hD hS => ?_)
          · skip
            have hP : va_P G vwCl ((cA T na mo nm rs D mny nA rA) ++ (cN T (nA j) x2 x3 N f g)) H := hP
            have hD : va_D (va_A ((cA T na mo nm rs D mny nA rA) ++ (cN T (nA j) x2 x3 N f g)) s.heap.size) ((cA T na mo nm rs D mny nA rA) ++ (cN T (nA j) x2 x3 N f g)) := hD
            exact absurd he.2 (by decide)
          · skip
            have hP : va_P G vwCl ((cA T na mo nm rs D mny nA rA) ++ (cN T (nA j) x2 x3 N f g)) H := hP
            have hD : va_D (va_A ((cA T na mo nm rs D mny nA rA) ++ (cN T (nA j) x2 x3 N f g)) s.heap.size) ((cA T na mo nm rs D mny nA rA) ++ (cN T (nA j) x2 x3 N f g)) := hD
            have hok50 := hw
            refine lv_aload hx hb dX2_bid_53 (lv_at hl 0 rfl) ?_
            refine va_getN (D := G) (ci := 0) (v := .int (N 0)) (C := RX0) (T := TX0) (N := 11) hx hb hts hiRX0 hown hK hP 4 rfl rfl 0 (by decide) (va_Nw.use rfl (hE.1 (.fieldLinkNest RX2 36 "NameAuction$Name" "phase" "I" RX2) (by decide +kernel))) (fun _ h9 => h9) rfl dX2_bid_55 ?_
            refine lv_if_ne (tgt := 70) hx hb dX2_bid_58 (by decide) (fun c58 => ?_) (fun c58 => ?_)
            · exact absurd c33 c58
            · skip
              refine lv_aload hx hb dX2_bid_61 (lv_at hl 0 rfl) ?_
              refine lv_aload_n hx hb dX2_bid_63 rfl (lv_at hl 1 rfl) ?_
              refine va_get (D := G) (ci := 2) (v := .int (D 3)) (C := RX2) (T := TX2) (N := 6) hx hb hts hiRX2 hown hK hP 0 rfl rfl 3 (by decide) (hts (.fieldLink RX2 44 "NameAuction" "day" "I") (by decide +kernel)) (fun _ h9 => h9) rfl dX2_bid_64 ?_
              refine gcv (va_runVN (As := [.int (D 3)]) (rest := []) ⟨hx, hb, hml, hown, hts⟩ (kX0_beginAuction l G T (nA j) x2 x3 N f g (D 3) _) ⟨(va_cnB 1 hts ggX2_bid_X0_beginAuction rfl rfl rfl (hE.1 (.methodLinkNest RX2 47 yX0_beginAuction RX2) (by decide +kernel)) (hts (.initialized RX0) (by decide +kernel)) (by decide +kernel) ⟨Nat.le_of_ble_eq_true rfl, Nat.le_of_ble_eq_true rfl⟩), hts (.instanceMethod yX0_beginAuction) (by decide +kernel), hts (.selects RX0 yX0_beginAuction yX0_beginAuction) (by decide +kernel)⟩ ⟨gblind, va_recv hK hP (ci := 0) (q0 := 4) rfl rfl, gpre hE hK hP hD hS hA [4, 5, 6] rfl rfl⟩ rfl rfl hl.1 rfl (lv_room (Nat.le_of_ble_eq_true rfl)) dX2_bid_67 ⟨Nat.le_of_ble_eq_true rfl, Nat.le_of_ble_eq_true rfl⟩) hP hD hS hA [4, 5, 6] rfl rfl (fun H locs hw hP hD hS => ?_)
              have hP : va_P G vwCl ((cA T na mo nm rs D mny nA rA) ++ (cN T (nA j) x2 x3 (upd (upd N 0 1) 2 ((D 3) + 5)) f g)) H := hP
              have hD : va_D (va_A ((cA T na mo nm rs D mny nA rA) ++ (cN T (nA j) x2 x3 N f g)) s.heap.size) ((cA T na mo nm rs D mny nA rA) ++ (cN T (nA j) x2 x3 (upd (upd N 0 1) 2 ((D 3) + 5)) f g)) := hD
              refine lv_aload_n hx hb dX2_bid_70 rfl (lv_at hl 1 rfl) ?_
              refine lv_dup hx hb dX2_bid_71 rfl ?_
              refine va_get (D := G) (ci := 2) (v := .int (D 5)) (C := RX2) (T := TX2) (N := 6) hx hb hts hiRX2 hown hK hP 0 rfl rfl 5 (by decide) (hts (.fieldLink RX2 51 "NameAuction" "bidsMade" "I") (by decide +kernel)) (fun _ h9 => h9) rfl dX2_bid_72 ?_
              refine lv_iconst (v := 1) hx hb dX2_bid_75 (by decide) ?_
              refine lv_iadd hx hb dX2_bid_76 ?_
              refine va_put (D := G) (ci := 2) (v := .int ((D 5) + 1)) (ty := .int) (C := RX2) (T := TX2) (N := 6) hx hb hts hiRX2 tyX2 tyX2_ok nmX2 hown hK hP hD hS 0 rfl rfl 5 (by decide) (hts (.fieldLink RX2 51 "NameAuction" "bidsMade" "I") (by decide +kernel)) (fun _ h9 => h9) rfl (by decide +kernel) rfl rfl (Nat.le_of_ble_eq_true rfl) dX2_bid_77 (fun H locs hP hD hS => ?_)
              have hP : va_P G vwCl ((cA T na mo nm rs (upd D 5 ((D 5) + 1)) mny nA rA) ++ (cN T (nA j) x2 x3 (upd (upd N 0 1) 2 ((D 3) + 5)) f g)) H := hP
              have hD : va_D (va_A ((cA T na mo nm rs D mny nA rA) ++ (cN T (nA j) x2 x3 N f g)) s.heap.size) ((cA T na mo nm rs (upd D 5 ((D 5) + 1)) mny nA rA) ++ (cN T (nA j) x2 x3 (upd (upd N 0 1) 2 ((D 3) + 5)) f g)) := hD
              refine lv_aload hx hb dX2_bid_80 (lv_at hl 0 rfl) ?_
              refine va_getN (D := G) (ci := 0) (v := .ref x2) (C := RX0) (T := TX0) (N := 11) hx hb hts hiRX0 hown hK hP 4 rfl rfl 9 (by decide) (va_Nw.use rfl (hE.1 (.fieldLinkNest RX2 54 "NameAuction$Name" "amounts" "[I" RX2) (by decide +kernel))) (fun _ h9 => h9) rfl dX2_bid_82 ?_
              refine lv_iload_n hx hb dX2_bid_85 rfl (lv_at hl 2 rfl) ?_
              refine lv_iload_n hx hb dX2_bid_86 rfl (lv_at hl 4 rfl) ?_
              refine giast (j := i) hx hb hK hP hD hS 5 0 rfl rfl e0.1 e0.2 (by decide) dX2_bid_87 (fun H locs hP hD hS => ?_)
              have hP : va_P G vwCl ((cA T na mo nm rs (upd D 5 ((D 5) + 1)) mny nA rA) ++ (cN T (nA j) x2 x3 (upd (upd N 0 1) 2 ((D 3) + 5)) (upd f i p2) g)) H := hP
              have hD : va_D (va_A ((cA T na mo nm rs D mny nA rA) ++ (cN T (nA j) x2 x3 N f g)) s.heap.size) ((cA T na mo nm rs (upd D 5 ((D 5) + 1)) mny nA rA) ++ (cN T (nA j) x2 x3 (upd (upd N 0 1) 2 ((D 3) + 5)) (upd f i p2) g)) := hD
              refine lv_aload hx hb dX2_bid_88 (lv_at hl 0 rfl) ?_
              refine va_getN (D := G) (ci := 0) (v := .ref x3) (C := RX0) (T := TX0) (N := 11) hx hb hts hiRX0 hown hK hP 4 rfl rfl 10 (by decide) (va_Nw.use rfl (hE.1 (.fieldLinkNest RX2 57 "NameAuction$Name" "turns" "[I" RX2) (by decide +kernel))) (fun _ h9 => h9) rfl dX2_bid_90 ?_
              refine lv_iload_n hx hb dX2_bid_93 rfl (lv_at hl 2 rfl) ?_
              refine lv_aload_n hx hb dX2_bid_94 rfl (lv_at hl 1 rfl) ?_
              refine va_get (D := G) (ci := 2) (v := .int ((D 5) + 1)) (C := RX2) (T := TX2) (N := 6) hx hb hts hiRX2 hown hK hP 0 rfl rfl 5 (by decide) (hts (.fieldLink RX2 51 "NameAuction" "bidsMade" "I") (by decide +kernel)) (fun _ h9 => h9) rfl dX2_bid_95 ?_
              refine giast (j := i) hx hb hK hP hD hS 6 0 rfl rfl e0.1 e0.2 (by decide) dX2_bid_98 (fun H locs hP hD hS => ?_)
              have hP : va_P G vwCl ((cA T na mo nm rs (upd D 5 ((D 5) + 1)) mny nA rA) ++ (cN T (nA j) x2 x3 (upd (upd N 0 1) 2 ((D 3) + 5)) (upd f i p2) (upd g i ((D 5) + 1)))) H := hP
              have hD : va_D (va_A ((cA T na mo nm rs D mny nA rA) ++ (cN T (nA j) x2 x3 N f g)) s.heap.size) ((cA T na mo nm rs (upd D 5 ((D 5) + 1)) mny nA rA) ++ (cN T (nA j) x2 x3 (upd (upd N 0 1) 2 ((D 3) + 5)) (upd f i p2) (upd g i ((D 5) + 1)))) := hD
              refine lv_aload hx hb dX2_bid_99 (lv_at hl 0 rfl) ?_
              refine va_getN (D := G) (ci := 0) (v := .int ((D 3) + 5)) (C := RX0) (T := TX0) (N := 11) hx hb hts hiRX0 hown hK hP 4 rfl rfl 2 (by decide) (va_Nw.use rfl (hE.1 (.fieldLinkNest RX2 60 "NameAuction$Name" "closing" "I" RX2) (by decide +kernel))) (fun _ h9 => h9) rfl dX2_bid_101 ?_
              refine vx_ret ?_
              exact W.iret (v := (D 3) + 5) hx hb hr (fun t ht9 hW => ⟨⟨(D 3) + 5, (), rfl, ⟨(by simp [kBid, c33, c58, hok3, hok9, hok17, hok50]), by simp [sBidN, upd, c33, c58, hok3, hok9, hok17, hok50]⟩, gBi ht9 (gfin hP (by simp [sBidN, c33, c58, hok3, hok9, hok17, hok50]))⟩, hS.F ht9⟩) hS.2.2 dX2_bid_104
        · skip
          refine lv_aload hx hb dX2_bid_36 (lv_at hl 0 rfl) ?_
          refine va_getN (D := G) (ci := 0) (v := .int (N 0)) (C := RX0) (T := TX0) (N := 11) hx hb hts hiRX0 hown hK hP 4 rfl rfl 0 (by decide) (va_Nw.use rfl (hE.1 (.fieldLinkNest RX2 36 "NameAuction$Name" "phase" "I" RX2) (by decide +kernel))) (fun _ h9 => h9) rfl dX2_bid_38 ?_
          refine lv_iconst (v := 1) hx hb dX2_bid_41 (by decide) ?_
          refine lv_icmp_ne (tgt := 49) hx hb dX2_bid_42 (by decide) (fun c42 => ?_) (fun c42 => ?_)
          · skip
            refine lv_iconst (v := 0) hx hb dX2_bid_49 (by decide) ?_
            refine gxv (vx_runS (As := [.int 0]) (rest := []) ⟨hx, hb, hml, hown, hts⟩ (kX2_checkPossible l hl0 G T 0 _) (va_cwS 1 hts gX2_bid_X2_checkPossible rfl rfl rfl (by decide +kernel) ⟨Nat.le_of_ble_eq_true rfl, Nat.le_of_ble_eq_true rfl⟩) ⟨gblind, gpre hE hK hP hD hS hA [] rfl rfl⟩ rfl rfl hl.1 rfl (lv_room (Nat.le_of_ble_eq_true rfl)) dX2_bid_50 ⟨Nat.le_of_ble_eq_true rfl, Nat.le_of_ble_eq_true rfl⟩) hP hD hS hA [] rfl rfl (fun E9 ce9 q9 H locs he hP hD hS hce hcv hcl => ?_) (fun H locs hw hP hD hS => ?_)
            · skip
              have hP : va_P G vwCl ((cA T na mo nm rs D mny nA rA) ++ (cN T (nA j) x2 x3 N f g)) H := hP
              have hD : va_D (va_A ((cA T na mo nm rs D mny nA rA) ++ (cN T (nA j) x2 x3 N f g)) s.heap.size) ((cA T na mo nm rs D mny nA rA) ++ (cN T (nA j) x2 x3 N f g)) := hD
              exact gout (pe := fun E => pK (kBid p0 p1 p2 N) E) ht hlocks (by obtain ⟨h8, h9⟩ := he; subst h8; simp [pK, kBid, h9, c33, c42, hok3, hok9, hok17]) hP hS hce hcv hcl (Nat.le_of_ble_eq_true rfl) (Nat.le_of_ble_eq_true rfl)
            · skip
              exact absurd rfl hw
          · skip
            refine lv_iconst (v := 1) hx hb dX2_bid_45 (by decide) ?_
            refine lv_goto (tgt := 50) hx hb dX2_bid_46 (by decide) ?_
            refine gxv (vx_runS (As := [.int 1]) (rest := []) ⟨hx, hb, hml, hown, hts⟩ (kX2_checkPossible l hl0 G T 1 _) (va_cwS 1 hts gX2_bid_X2_checkPossible rfl rfl rfl (by decide +kernel) ⟨Nat.le_of_ble_eq_true rfl, Nat.le_of_ble_eq_true rfl⟩) ⟨gblind, gpre hE hK hP hD hS hA [] rfl rfl⟩ rfl rfl hl.1 rfl (lv_room (Nat.le_of_ble_eq_true rfl)) dX2_bid_50 ⟨Nat.le_of_ble_eq_true rfl, Nat.le_of_ble_eq_true rfl⟩) hP hD hS hA [] rfl rfl (fun E9 ce9 q9 H locs he hP hD hS hce hcv hcl => ?_) (fun H locs hw hP hD hS => ?_)
            · skip
              have hP : va_P G vwCl ((cA T na mo nm rs D mny nA rA) ++ (cN T (nA j) x2 x3 N f g)) H := hP
              have hD : va_D (va_A ((cA T na mo nm rs D mny nA rA) ++ (cN T (nA j) x2 x3 N f g)) s.heap.size) ((cA T na mo nm rs D mny nA rA) ++ (cN T (nA j) x2 x3 N f g)) := hD
              exact absurd he.2 (by decide)
            · skip
              have hP : va_P G vwCl ((cA T na mo nm rs D mny nA rA) ++ (cN T (nA j) x2 x3 N f g)) H := hP
              have hD : va_D (va_A ((cA T na mo nm rs D mny nA rA) ++ (cN T (nA j) x2 x3 N f g)) s.heap.size) ((cA T na mo nm rs D mny nA rA) ++ (cN T (nA j) x2 x3 N f g)) := hD
              have hok50 := hw
              refine lv_aload hx hb dX2_bid_53 (lv_at hl 0 rfl) ?_
              refine va_getN (D := G) (ci := 0) (v := .int (N 0)) (C := RX0) (T := TX0) (N := 11) hx hb hts hiRX0 hown hK hP 4 rfl rfl 0 (by decide) (va_Nw.use rfl (hE.1 (.fieldLinkNest RX2 36 "NameAuction$Name" "phase" "I" RX2) (by decide +kernel))) (fun _ h9 => h9) rfl dX2_bid_55 ?_
              refine lv_if_ne (tgt := 70) hx hb dX2_bid_58 (by decide) (fun c58 => ?_) (fun c58 => ?_)
              · skip
                refine lv_aload_n hx hb dX2_bid_70 rfl (lv_at hl 1 rfl) ?_
                refine lv_dup hx hb dX2_bid_71 rfl ?_
                refine va_get (D := G) (ci := 2) (v := .int (D 5)) (C := RX2) (T := TX2) (N := 6) hx hb hts hiRX2 hown hK hP 0 rfl rfl 5 (by decide) (hts (.fieldLink RX2 51 "NameAuction" "bidsMade" "I") (by decide +kernel)) (fun _ h9 => h9) rfl dX2_bid_72 ?_
                refine lv_iconst (v := 1) hx hb dX2_bid_75 (by decide) ?_
                refine lv_iadd hx hb dX2_bid_76 ?_
                refine va_put (D := G) (ci := 2) (v := .int ((D 5) + 1)) (ty := .int) (C := RX2) (T := TX2) (N := 6) hx hb hts hiRX2 tyX2 tyX2_ok nmX2 hown hK hP hD hS 0 rfl rfl 5 (by decide) (hts (.fieldLink RX2 51 "NameAuction" "bidsMade" "I") (by decide +kernel)) (fun _ h9 => h9) rfl (by decide +kernel) rfl rfl (Nat.le_of_ble_eq_true rfl) dX2_bid_77 (fun H locs hP hD hS => ?_)
                have hP : va_P G vwCl ((cA T na mo nm rs (upd D 5 ((D 5) + 1)) mny nA rA) ++ (cN T (nA j) x2 x3 N f g)) H := hP
                have hD : va_D (va_A ((cA T na mo nm rs D mny nA rA) ++ (cN T (nA j) x2 x3 N f g)) s.heap.size) ((cA T na mo nm rs (upd D 5 ((D 5) + 1)) mny nA rA) ++ (cN T (nA j) x2 x3 N f g)) := hD
                refine lv_aload hx hb dX2_bid_80 (lv_at hl 0 rfl) ?_
                refine va_getN (D := G) (ci := 0) (v := .ref x2) (C := RX0) (T := TX0) (N := 11) hx hb hts hiRX0 hown hK hP 4 rfl rfl 9 (by decide) (va_Nw.use rfl (hE.1 (.fieldLinkNest RX2 54 "NameAuction$Name" "amounts" "[I" RX2) (by decide +kernel))) (fun _ h9 => h9) rfl dX2_bid_82 ?_
                refine lv_iload_n hx hb dX2_bid_85 rfl (lv_at hl 2 rfl) ?_
                refine lv_iload_n hx hb dX2_bid_86 rfl (lv_at hl 4 rfl) ?_
                refine giast (j := i) hx hb hK hP hD hS 5 0 rfl rfl e0.1 e0.2 (by decide) dX2_bid_87 (fun H locs hP hD hS => ?_)
                have hP : va_P G vwCl ((cA T na mo nm rs (upd D 5 ((D 5) + 1)) mny nA rA) ++ (cN T (nA j) x2 x3 N (upd f i p2) g)) H := hP
                have hD : va_D (va_A ((cA T na mo nm rs D mny nA rA) ++ (cN T (nA j) x2 x3 N f g)) s.heap.size) ((cA T na mo nm rs (upd D 5 ((D 5) + 1)) mny nA rA) ++ (cN T (nA j) x2 x3 N (upd f i p2) g)) := hD
                refine lv_aload hx hb dX2_bid_88 (lv_at hl 0 rfl) ?_
                refine va_getN (D := G) (ci := 0) (v := .ref x3) (C := RX0) (T := TX0) (N := 11) hx hb hts hiRX0 hown hK hP 4 rfl rfl 10 (by decide) (va_Nw.use rfl (hE.1 (.fieldLinkNest RX2 57 "NameAuction$Name" "turns" "[I" RX2) (by decide +kernel))) (fun _ h9 => h9) rfl dX2_bid_90 ?_
                refine lv_iload_n hx hb dX2_bid_93 rfl (lv_at hl 2 rfl) ?_
                refine lv_aload_n hx hb dX2_bid_94 rfl (lv_at hl 1 rfl) ?_
                refine va_get (D := G) (ci := 2) (v := .int ((D 5) + 1)) (C := RX2) (T := TX2) (N := 6) hx hb hts hiRX2 hown hK hP 0 rfl rfl 5 (by decide) (hts (.fieldLink RX2 51 "NameAuction" "bidsMade" "I") (by decide +kernel)) (fun _ h9 => h9) rfl dX2_bid_95 ?_
                refine giast (j := i) hx hb hK hP hD hS 6 0 rfl rfl e0.1 e0.2 (by decide) dX2_bid_98 (fun H locs hP hD hS => ?_)
                have hP : va_P G vwCl ((cA T na mo nm rs (upd D 5 ((D 5) + 1)) mny nA rA) ++ (cN T (nA j) x2 x3 N (upd f i p2) (upd g i ((D 5) + 1)))) H := hP
                have hD : va_D (va_A ((cA T na mo nm rs D mny nA rA) ++ (cN T (nA j) x2 x3 N f g)) s.heap.size) ((cA T na mo nm rs (upd D 5 ((D 5) + 1)) mny nA rA) ++ (cN T (nA j) x2 x3 N (upd f i p2) (upd g i ((D 5) + 1)))) := hD
                refine lv_aload hx hb dX2_bid_99 (lv_at hl 0 rfl) ?_
                refine va_getN (D := G) (ci := 0) (v := .int (N 2)) (C := RX0) (T := TX0) (N := 11) hx hb hts hiRX0 hown hK hP 4 rfl rfl 2 (by decide) (va_Nw.use rfl (hE.1 (.fieldLinkNest RX2 60 "NameAuction$Name" "closing" "I" RX2) (by decide +kernel))) (fun _ h9 => h9) rfl dX2_bid_101 ?_
                refine vx_ret ?_
                exact W.iret (v := N 2) hx hb hr (fun t ht9 hW => ⟨⟨N 2, (), rfl, ⟨(by simp [kBid, c33, c42, c58, hok3, hok9, hok17, hok50]), by simp [sBidN, upd, c33, c42, c58, hok3, hok9, hok17, hok50]⟩, gBi ht9 (gfin hP (by simp [sBidN, c33, c42, c58, hok3, hok9, hok17, hok50]))⟩, hS.F ht9⟩) hS.2.2 dX2_bid_104
              · exact absurd c58 c33
abbrev PX2_bids (G : va_G) (T : Nat → ClassId) (na mo nm rs : Nat) (D mny : Nat → Int32) (nA rA : Nat → Nat) (j x2 x3 : Nat) (N f g : Nat → Int32) (p0 : Int32) (sz : Nat) : Array Value → State → Prop := gPc G T [.ref na, .int p0] ((cA T na mo nm rs D mny nA rA) ++ (cN T (nA j) x2 x3 N f g)) sz
abbrev QX2_bids (G : va_G) (T : Nat → ClassId) (na mo nm rs : Nat) (D mny : Nat → Int32) (nA rA : Nat → Nat) (j x2 x3 : Nat) (N f g : Nat → Int32) (p0 : Int32) (sz : Nat) : Array Value → State → Outcome → State → Prop := va_Qi (fun (r : Int32) (_ : Unit) => kNam p0 = 0 ∧ r = sCnt f 6) (gB G ((cA T na mo nm rs D mny nA rA) ++ (cN T (nA j) x2 x3 N f g))) (va_A ((cA T na mo nm rs D mny nA rA) ++ (cN T (nA j) x2 x3 N f g)) sz)
abbrev XX2_bids (G : va_G) (T : Nat → ClassId) (na mo nm rs : Nat) (D mny : Nat → Int32) (nA rA : Nat → Nat) (j x2 x3 : Nat) (N f g : Nat → Int32) (p0 : Int32) (sz : Nat) : String → State → State → Prop := gX G ((cA T na mo nm rs D mny nA rA) ++ (cN T (nA j) x2 x3 N f g)) sz (fun E => pK (kNam p0) E)
set_option maxHeartbeats 4000000 in
set_option maxRecDepth 100000 in
theorem kX2_bids (l : Launch) (hl0 : l.stackTraces = false) (G : va_G) (T : Nat → ClassId) (na mo nm rs : Nat) (D mny : Nat → Int32) (nA rA : Nat → Nat) (j x2 x3 : Nat) (N f g : Nat → Int32) (p0 : Int32) (sz : Nat) (hj : okI p0 16 = true → p0 = nI j ∧ j < 16) : vx_Met l yX2_bids wsX2_bids ({ frames := 7, cells := 1, slots := 6, locals := 102 } : Room) (PX2_bids G T na mo nm rs D mny nA rA j x2 x3 N f g p0 sz) (QX2_bids G T na mo nm rs D mny nA rA j x2 x3 N f g p0 sz) (XX2_bids G T na mo nm rs D mny nA rA j x2 x3 N f g p0 sz) 1 6 (va_A ((cA T na mo nm rs D mny nA rA) ++ (cN T (nA j) x2 x3 N f g)) sz) := by
  refine vx_ofW (cc := cX2_bids) (maxL := 2) (ret := (some .int)) (by decide) rfl ?_
  intro p e s m args below meth c s₁ B hml ht hv
  obtain ⟨rfl, hsz, hP, hK, hD0, hE⟩ := hv
  have hx := B.exec
  have hb := B.bytes
  have hr := B.returns
  have hts := atoms_spec (ws := wsX2_bids) B.pre
  have hown : s.vm.findClass RX2 = some m.cls := findClass_of_methodNamed B.named
  have hlocks := B.notSynchronized
  subst hsz
  have hD := hD0.self (sz := s.heap.size)
  have hA : ∀ q : Nat, s.heap.size ≤ q → (va_A ((cA T na mo nm rs D mny nA rA) ++ (cN T (nA j) x2 x3 N f g)) s.heap.size) q := fun q h => Or.inr h
  have hS : va_S (va_A ((cA T na mo nm rs D mny nA rA) ++ (cN T (nA j) x2 x3 N f g)) s.heap.size) s.heap s.heap [] := va_S.rf
  have hiRX2 : ∀ w ∈ u_ws RX2 TX2 6, w ∈ wsX2_bids := by decide +kernel
  have hl := lv_entry ([.ref na, .int p0]) (n := 2) (Nat.le_of_ble_eq_true rfl)
  rw [lg_entry_eq]
  generalize (lg_sl ([.ref na, .int p0]) ++ List.replicate (2 - (lg_sl ([.ref na, .int p0])).length) Slot.unset).toArray = ls at hl ⊢
  have hl : lv_has ls 2 [(0, .ref na), (1, .int p0)] := hl
  have hP : va_P G vwCl ((cA T na mo nm rs D mny nA rA) ++ (cN T (nA j) x2 x3 N f g)) s.heap := hP
  refine lv_iload_n hx hb dX2_bids_0 rfl (lv_at hl 1 rfl) ?_
  refine lv_bipush (v := 16) hx hb dX2_bids_1 (by decide) ?_
  refine gxv (vx_runS (As := [.int p0, .int 16]) (rest := []) ⟨hx, hb, hml, hown, hts⟩ (kX2_checkIndex l hl0 G T p0 16 _) (va_cwS 2 hts gX2_bids_X2_checkIndex rfl rfl rfl (by decide +kernel) ⟨Nat.le_of_ble_eq_true rfl, Nat.le_of_ble_eq_true rfl⟩) ⟨gblind, gpre hE hK hP hD hS hA [] rfl rfl⟩ rfl rfl hl.1 rfl (lv_room (Nat.le_of_ble_eq_true rfl)) dX2_bids_3 ⟨Nat.le_of_ble_eq_true rfl, Nat.le_of_ble_eq_true rfl⟩) hP hD hS hA [] rfl rfl (fun E9 ce9 q9 H locs he hP hD hS hce hcv hcl => ?_) (fun H locs hw hP hD hS => ?_)
  · skip
    have hP : va_P G vwCl ((cA T na mo nm rs D mny nA rA) ++ (cN T (nA j) x2 x3 N f g)) H := hP
    have hD : va_D (va_A ((cA T na mo nm rs D mny nA rA) ++ (cN T (nA j) x2 x3 N f g)) s.heap.size) ((cA T na mo nm rs D mny nA rA) ++ (cN T (nA j) x2 x3 N f g)) := hD
    exact gout (pe := fun E => pK (kNam p0) E) ht hlocks (by obtain ⟨h8, h9⟩ := he; subst h8; simp [pK, kNam, h9]) hP hS hce hcv hcl (Nat.le_of_ble_eq_true rfl) (Nat.le_of_ble_eq_true rfl)
  · skip
    have hP : va_P G vwCl ((cA T na mo nm rs D mny nA rA) ++ (cN T (nA j) x2 x3 N f g)) H := hP
    have hD : va_D (va_A ((cA T na mo nm rs D mny nA rA) ++ (cN T (nA j) x2 x3 N f g)) s.heap.size) ((cA T na mo nm rs D mny nA rA) ++ (cN T (nA j) x2 x3 N f g)) := hD
    have hok3 := hw
    have e1 := hj hok3
    refine lv_aload_n hx hb dX2_bids_6 rfl (lv_at hl 0 rfl) ?_
    refine va_get (D := G) (ci := 2) (v := .ref nm) (C := RX2) (T := TX2) (N := 6) hx hb hts hiRX2 hown hK hP 0 rfl rfl 1 (by decide) (hts (.fieldLink RX2 15 "NameAuction" "names" "[LNameAuction$Name;") (by decide +kernel)) (fun _ h9 => h9) rfl dX2_bids_7 ?_
    refine lv_iload_n hx hb dX2_bids_10 rfl (lv_at hl 1 rfl) ?_
    refine galdr (j := j) hx hb hK hP 2 2 rfl rfl e1.1 e1.2 (by decide) dX2_bids_11 ?_
    refine gci (va_runVN (As := []) (rest := []) ⟨hx, hb, hml, hown, hts⟩ (kX0_countBids l G T (nA j) x2 x3 N f g _) ⟨(va_cnB 0 hts ggX2_bids_X0_countBids rfl rfl rfl (hE.1 (.methodLinkNest RX2 63 yX0_countBids RX2) (by decide +kernel)) (hts (.initialized RX0) (by decide +kernel)) (by decide +kernel) ⟨Nat.le_of_ble_eq_true rfl, Nat.le_of_ble_eq_true rfl⟩), hts (.instanceMethod yX0_countBids) (by decide +kernel), hts (.selects RX0 yX0_countBids yX0_countBids) (by decide +kernel)⟩ ⟨gblind, va_recv hK hP (ci := 0) (q0 := 4) rfl rfl, gpre hE hK hP hD hS hA [4, 5, 6] rfl rfl⟩ rfl rfl hl.1 rfl (lv_room (Nat.le_of_ble_eq_true rfl)) dX2_bids_12 ⟨Nat.le_of_ble_eq_true rfl, Nat.le_of_ble_eq_true rfl⟩) hP hD hS hA [4, 5, 6] rfl rfl (fun r9 H locs hw hP hD hS => ?_)
    have hP : va_P G vwCl ((cA T na mo nm rs D mny nA rA) ++ (cN T (nA j) x2 x3 N f g)) H := hP
    have hD : va_D (va_A ((cA T na mo nm rs D mny nA rA) ++ (cN T (nA j) x2 x3 N f g)) s.heap.size) ((cA T na mo nm rs D mny nA rA) ++ (cN T (nA j) x2 x3 N f g)) := hD
    subst hw
    refine vx_ret ?_
    exact W.iret (v := sCnt f 6) hx hb hr (fun t ht9 hW => ⟨⟨sCnt f 6, (), rfl, ⟨(by simp [kNam, hok3]), rfl⟩, gBi ht9 (gfin hP (rfl))⟩, hS.F ht9⟩) hS.2.2 dX2_bids_15
abbrev PX2_renew (G : va_G) (T : Nat → ClassId) (na mo nm rs : Nat) (D mny : Nat → Int32) (nA rA : Nat → Nat) (j x2 x3 : Nat) (N f g : Nat → Int32) (p0 p1 : Int32) (sz : Nat) : Array Value → State → Prop := gPc G T [.ref na, .int p0, .int p1] ((cA T na mo nm rs D mny nA rA) ++ (cN T (nA j) x2 x3 N f g)) sz
abbrev QX2_renew (G : va_G) (T : Nat → ClassId) (na mo nm rs : Nat) (D mny : Nat → Int32) (nA rA : Nat → Nat) (j x2 x3 : Nat) (N f g : Nat → Int32) (p0 p1 : Int32) (sz : Nat) : Array Value → State → Outcome → State → Prop := va_Qi (fun (r : Int32) (_ : Unit) => kRenew D mny N p0 p1 = 0 ∧ r = N 3 + p1 * 100) (gB G ((cA T na mo nm rs (sPayD D mny (N 1) (p1 * 20)) (sPayF mny (N 1) (p1 * 20)) nA rA) ++ (cN T (nA j) x2 x3 (upd (upd N 3 (N 3 + p1 * 100)) 0 2) f g))) (va_A ((cA T na mo nm rs D mny nA rA) ++ (cN T (nA j) x2 x3 N f g)) sz)
abbrev XX2_renew (G : va_G) (T : Nat → ClassId) (na mo nm rs : Nat) (D mny : Nat → Int32) (nA rA : Nat → Nat) (j x2 x3 : Nat) (N f g : Nat → Int32) (p0 p1 : Int32) (sz : Nat) : String → State → State → Prop := gX G ((cA T na mo nm rs D mny nA rA) ++ (cN T (nA j) x2 x3 N f g)) sz (fun E => pK (kRenew D mny N p0 p1) E)
set_option maxHeartbeats 4000000 in
set_option maxRecDepth 100000 in
theorem kX2_renew (l : Launch) (hl0 : l.stackTraces = false) (G : va_G) (T : Nat → ClassId) (na mo nm rs : Nat) (D mny : Nat → Int32) (nA rA : Nat → Nat) (j x2 x3 : Nat) (N f g : Nat → Int32) (p0 p1 : Int32) (sz : Nat) (hj : okI p0 16 = true → p0 = nI j ∧ j < 16) : vx_Met l yX2_renew wsX2_renew ({ frames := 7, cells := 3, slots := 18, locals := 103 } : Room) (PX2_renew G T na mo nm rs D mny nA rA j x2 x3 N f g p0 p1 sz) (QX2_renew G T na mo nm rs D mny nA rA j x2 x3 N f g p0 p1 sz) (XX2_renew G T na mo nm rs D mny nA rA j x2 x3 N f g p0 p1 sz) 3 18 (va_A ((cA T na mo nm rs D mny nA rA) ++ (cN T (nA j) x2 x3 N f g)) sz) := by
  refine vx_ofW (cc := cX2_renew) (maxL := 6) (ret := (some .int)) (by decide) rfl ?_
  intro p e s m args below meth c s₁ B hml ht hv
  obtain ⟨rfl, hsz, hP, hK, hD0, hE⟩ := hv
  have hx := B.exec
  have hb := B.bytes
  have hr := B.returns
  have hts := atoms_spec (ws := wsX2_renew) B.pre
  have hown : s.vm.findClass RX2 = some m.cls := findClass_of_methodNamed B.named
  have hlocks := B.notSynchronized
  subst hsz
  have hD := hD0.self (sz := s.heap.size)
  have hA : ∀ q : Nat, s.heap.size ≤ q → (va_A ((cA T na mo nm rs D mny nA rA) ++ (cN T (nA j) x2 x3 N f g)) s.heap.size) q := fun q h => Or.inr h
  have hS : va_S (va_A ((cA T na mo nm rs D mny nA rA) ++ (cN T (nA j) x2 x3 N f g)) s.heap.size) s.heap s.heap [] := va_S.rf
  have hiRX0 : ∀ w ∈ u_ws RX0 TX0 11, w ∈ wsX2_renew := by decide +kernel
  have hiRX2 : ∀ w ∈ u_ws RX2 TX2 6, w ∈ wsX2_renew := by decide +kernel
  have hl := lv_entry ([.ref na, .int p0, .int p1]) (n := 6) (Nat.le_of_ble_eq_true rfl)
  rw [lg_entry_eq]
  generalize (lg_sl ([.ref na, .int p0, .int p1]) ++ List.replicate (6 - (lg_sl ([.ref na, .int p0, .int p1])).length) Slot.unset).toArray = ls at hl ⊢
  have hl : lv_has ls 6 [(0, .ref na), (1, .int p0), (2, .int p1)] := hl
  have hP : va_P G vwCl ((cA T na mo nm rs D mny nA rA) ++ (cN T (nA j) x2 x3 N f g)) s.heap := hP
  refine lv_iload_n hx hb dX2_renew_0 rfl (lv_at hl 1 rfl) ?_
  refine lv_bipush (v := 16) hx hb dX2_renew_1 (by decide) ?_
  refine gxv (vx_runS (As := [.int p0, .int 16]) (rest := []) ⟨hx, hb, hml, hown, hts⟩ (kX2_checkIndex l hl0 G T p0 16 _) (va_cwS 2 hts gX2_renew_X2_checkIndex rfl rfl rfl (by decide +kernel) ⟨Nat.le_of_ble_eq_true rfl, Nat.le_of_ble_eq_true rfl⟩) ⟨gblind, gpre hE hK hP hD hS hA [] rfl rfl⟩ rfl rfl hl.1 rfl (lv_room (Nat.le_of_ble_eq_true rfl)) dX2_renew_3 ⟨Nat.le_of_ble_eq_true rfl, Nat.le_of_ble_eq_true rfl⟩) hP hD hS hA [] rfl rfl (fun E9 ce9 q9 H locs he hP hD hS hce hcv hcl => ?_) (fun H locs hw hP hD hS => ?_)
  · skip
    have hP : va_P G vwCl ((cA T na mo nm rs D mny nA rA) ++ (cN T (nA j) x2 x3 N f g)) H := hP
    have hD : va_D (va_A ((cA T na mo nm rs D mny nA rA) ++ (cN T (nA j) x2 x3 N f g)) s.heap.size) ((cA T na mo nm rs D mny nA rA) ++ (cN T (nA j) x2 x3 N f g)) := hD
    exact gout (pe := fun E => pK (kRenew D mny N p0 p1) E) ht hlocks (by obtain ⟨h8, h9⟩ := he; subst h8; simp [pK, kRenew, h9]) hP hS hce hcv hcl (Nat.le_of_ble_eq_true rfl) (Nat.le_of_ble_eq_true rfl)
  · skip
    have hP : va_P G vwCl ((cA T na mo nm rs D mny nA rA) ++ (cN T (nA j) x2 x3 N f g)) H := hP
    have hD : va_D (va_A ((cA T na mo nm rs D mny nA rA) ++ (cN T (nA j) x2 x3 N f g)) s.heap.size) ((cA T na mo nm rs D mny nA rA) ++ (cN T (nA j) x2 x3 N f g)) := hD
    have hok3 := hw
    have e1 := hj hok3
    refine lv_iload_n hx hb dX2_renew_6 rfl (lv_at hl 2 rfl) ?_
    refine lv_iconst (v := 1) hx hb dX2_renew_7 (by decide) ?_
    refine lv_iconst (v := 5) hx hb dX2_renew_8 (by decide) ?_
    refine gxv (vx_runS (As := [.int p1, .int 1, .int 5]) (rest := []) ⟨hx, hb, hml, hown, hts⟩ (kX2_checkRange l hl0 G T p1 1 5 _) (va_cwS 3 hts gX2_renew_X2_checkRange rfl rfl rfl (by decide +kernel) ⟨Nat.le_of_ble_eq_true rfl, Nat.le_of_ble_eq_true rfl⟩) ⟨gblind, gpre hE hK hP hD hS hA [] rfl rfl⟩ rfl rfl hl.1 rfl (lv_room (Nat.le_of_ble_eq_true rfl)) dX2_renew_9 ⟨Nat.le_of_ble_eq_true rfl, Nat.le_of_ble_eq_true rfl⟩) hP hD hS hA [] rfl rfl (fun E9 ce9 q9 H locs he hP hD hS hce hcv hcl => ?_) (fun H locs hw hP hD hS => ?_)
    · skip
      have hP : va_P G vwCl ((cA T na mo nm rs D mny nA rA) ++ (cN T (nA j) x2 x3 N f g)) H := hP
      have hD : va_D (va_A ((cA T na mo nm rs D mny nA rA) ++ (cN T (nA j) x2 x3 N f g)) s.heap.size) ((cA T na mo nm rs D mny nA rA) ++ (cN T (nA j) x2 x3 N f g)) := hD
      exact gout (pe := fun E => pK (kRenew D mny N p0 p1) E) ht hlocks (by obtain ⟨h8, h9⟩ := he; subst h8; simp [pK, kRenew, h9, hok3]) hP hS hce hcv hcl (Nat.le_of_ble_eq_true rfl) (Nat.le_of_ble_eq_true rfl)
    · skip
      have hP : va_P G vwCl ((cA T na mo nm rs D mny nA rA) ++ (cN T (nA j) x2 x3 N f g)) H := hP
      have hD : va_D (va_A ((cA T na mo nm rs D mny nA rA) ++ (cN T (nA j) x2 x3 N f g)) s.heap.size) ((cA T na mo nm rs D mny nA rA) ++ (cN T (nA j) x2 x3 N f g)) := hD
      have hok9 := hw
      refine lv_aload_n hx hb dX2_renew_12 rfl (lv_at hl 0 rfl) ?_
      refine va_get (D := G) (ci := 2) (v := .ref nm) (C := RX2) (T := TX2) (N := 6) hx hb hts hiRX2 hown hK hP 0 rfl rfl 1 (by decide) (hts (.fieldLink RX2 15 "NameAuction" "names" "[LNameAuction$Name;") (by decide +kernel)) (fun _ h9 => h9) rfl dX2_renew_13 ?_
      refine lv_iload_n hx hb dX2_renew_16 rfl (lv_at hl 1 rfl) ?_
      refine galdr (j := j) hx hb hK hP 2 2 rfl rfl e1.1 e1.2 (by decide) dX2_renew_17 ?_
      refine lv_astore_n (lv' := [(3, .ref (nA j)), (0, .ref na), (1, .int p0), (2, .int p1)]) hx hb dX2_renew_18 rfl hl (by decide) rfl (fun ls hl => ?_)
      refine lv_aload_n hx hb dX2_renew_19 rfl (lv_at hl 0 rfl) ?_
      refine va_getN (D := G) (ci := 0) (v := .int (N 3)) (C := RX0) (T := TX0) (N := 11) hx hb hts hiRX0 hown hK hP 4 rfl rfl 3 (by decide) (va_Nw.use rfl (hE.1 (.fieldLinkNest RX2 67 "NameAuction$Name" "end" "I" RX2) (by decide +kernel))) (fun _ h9 => h9) rfl dX2_renew_20 ?_
      refine lv_iload_n hx hb dX2_renew_23 rfl (lv_at hl 3 rfl) ?_
      refine lv_bipush (v := 100) hx hb dX2_renew_24 (by decide) ?_
      refine lv_imul hx hb dX2_renew_26 ?_
      refine lv_iadd hx hb dX2_renew_27 ?_
      refine lv_istore (lv' := [(4, .int ((N 3) + (p1 * 100))), (3, .ref (nA j)), (0, .ref na), (1, .int p0), (2, .int p1)]) hx hb dX2_renew_28 hl (by decide) rfl (fun ls hl => ?_)
      refine lv_iload_n hx hb dX2_renew_30 rfl (lv_at hl 4 rfl) ?_
      refine lv_bipush (v := 20) hx hb dX2_renew_31 (by decide) ?_
      refine lv_imul hx hb dX2_renew_33 ?_
      refine lv_istore (lv' := [(5, .int (p1 * 20)), (4, .int ((N 3) + (p1 * 100))), (3, .ref (nA j)), (0, .ref na), (1, .int p0), (2, .int p1)]) hx hb dX2_renew_34 hl (by decide) rfl (fun ls hl => ?_)
      refine lv_aload_n hx hb dX2_renew_36 rfl (lv_at hl 2 rfl) ?_
      refine va_getN (D := G) (ci := 0) (v := .int (N 0)) (C := RX0) (T := TX0) (N := 11) hx hb hts hiRX0 hown hK hP 4 rfl rfl 0 (by decide) (va_Nw.use rfl (hE.1 (.fieldLinkNest RX2 36 "NameAuction$Name" "phase" "I" RX2) (by decide +kernel))) (fun _ h9 => h9) rfl dX2_renew_37 ?_
      refine gci (va_runS (As := [.int (N 0)]) (rest := []) ⟨hx, hb, hml, hown, hts⟩ (kX2_isHeld l G T (N 0) _) (va_cwS 1 hts gX2_renew_X2_isHeld rfl rfl rfl (by decide +kernel) ⟨Nat.le_of_ble_eq_true rfl, Nat.le_of_ble_eq_true rfl⟩) ⟨gblind, gpre hE hK hP hD hS hA [] rfl rfl⟩ rfl rfl hl.1 rfl (lv_room (Nat.le_of_ble_eq_true rfl)) dX2_renew_40 ⟨Nat.le_of_ble_eq_true rfl, Nat.le_of_ble_eq_true rfl⟩) hP hD hS hA [] rfl rfl (fun r9 H locs hw hP hD hS => ?_)
      have hP : va_P G vwCl ((cA T na mo nm rs D mny nA rA) ++ (cN T (nA j) x2 x3 N f g)) H := hP
      have hD : va_D (va_A ((cA T na mo nm rs D mny nA rA) ++ (cN T (nA j) x2 x3 N f g)) s.heap.size) ((cA T na mo nm rs D mny nA rA) ++ (cN T (nA j) x2 x3 N f g)) := hD
      subst hw
      refine lv_if_eq (tgt := 76) hx hb dX2_renew_43 (by decide) (fun c43 => ?_) (fun c43 => ?_)
      · skip
        refine lv_iconst (v := 0) hx hb dX2_renew_76 (by decide) ?_
        refine gxv (vx_runS (As := [.int 0]) (rest := []) ⟨hx, hb, hml, hown, hts⟩ (kX2_checkPossible l hl0 G T 0 _) (va_cwS 1 hts gX2_renew_X2_checkPossible rfl rfl rfl (by decide +kernel) ⟨Nat.le_of_ble_eq_true rfl, Nat.le_of_ble_eq_true rfl⟩) ⟨gblind, gpre hE hK hP hD hS hA [] rfl rfl⟩ rfl rfl hl.1 rfl (lv_room (Nat.le_of_ble_eq_true rfl)) dX2_renew_77 ⟨Nat.le_of_ble_eq_true rfl, Nat.le_of_ble_eq_true rfl⟩) hP hD hS hA [] rfl rfl (fun E9 ce9 q9 H locs he hP hD hS hce hcv hcl => ?_) (fun H locs hw hP hD hS => ?_)
        · skip
          have hP : va_P G vwCl ((cA T na mo nm rs D mny nA rA) ++ (cN T (nA j) x2 x3 N f g)) H := hP
          have hD : va_D (va_A ((cA T na mo nm rs D mny nA rA) ++ (cN T (nA j) x2 x3 N f g)) s.heap.size) ((cA T na mo nm rs D mny nA rA) ++ (cN T (nA j) x2 x3 N f g)) := hD
          exact gout (pe := fun E => pK (kRenew D mny N p0 p1) E) ht hlocks (by obtain ⟨h8, h9⟩ := he; subst h8; simp [pK, kRenew, h9, c43, hok3, hok9]) hP hS hce hcv hcl (Nat.le_of_ble_eq_true rfl) (Nat.le_of_ble_eq_true rfl)
        · skip
          exact absurd rfl hw
      · skip
        refine lv_iload hx hb dX2_renew_46 (lv_at hl 1 rfl) ?_
        refine lv_aload_n hx hb dX2_renew_48 rfl (lv_at hl 3 rfl) ?_
        refine va_get (D := G) (ci := 2) (v := .int (D 3)) (C := RX2) (T := TX2) (N := 6) hx hb hts hiRX2 hown hK hP 0 rfl rfl 3 (by decide) (hts (.fieldLink RX2 44 "NameAuction" "day" "I") (by decide +kernel)) (fun _ h9 => h9) rfl dX2_renew_49 ?_
        refine lv_sipush (v := 600) hx hb dX2_renew_52 (by decide) ?_
        refine lv_iadd hx hb dX2_renew_55 ?_
        refine lv_icmp_gt (tgt := 76) hx hb dX2_renew_56 (by decide) (fun c56 => ?_) (fun c56 => ?_)
        · skip
          refine lv_iconst (v := 0) hx hb dX2_renew_76 (by decide) ?_
          refine gxv (vx_runS (As := [.int 0]) (rest := []) ⟨hx, hb, hml, hown, hts⟩ (kX2_checkPossible l hl0 G T 0 _) (va_cwS 1 hts gX2_renew_X2_checkPossible rfl rfl rfl (by decide +kernel) ⟨Nat.le_of_ble_eq_true rfl, Nat.le_of_ble_eq_true rfl⟩) ⟨gblind, gpre hE hK hP hD hS hA [] rfl rfl⟩ rfl rfl hl.1 rfl (lv_room (Nat.le_of_ble_eq_true rfl)) dX2_renew_77 ⟨Nat.le_of_ble_eq_true rfl, Nat.le_of_ble_eq_true rfl⟩) hP hD hS hA [] rfl rfl (fun E9 ce9 q9 H locs he hP hD hS hce hcv hcl => ?_) (fun H locs hw hP hD hS => ?_)
          · skip
            have hP : va_P G vwCl ((cA T na mo nm rs D mny nA rA) ++ (cN T (nA j) x2 x3 N f g)) H := hP
            have hD : va_D (va_A ((cA T na mo nm rs D mny nA rA) ++ (cN T (nA j) x2 x3 N f g)) s.heap.size) ((cA T na mo nm rs D mny nA rA) ++ (cN T (nA j) x2 x3 N f g)) := hD
            exact gout (pe := fun E => pK (kRenew D mny N p0 p1) E) ht hlocks (by obtain ⟨h8, h9⟩ := he; subst h8; simp [pK, kRenew, h9, c43, c56, hok3, hok9]) hP hS hce hcv hcl (Nat.le_of_ble_eq_true rfl) (Nat.le_of_ble_eq_true rfl)
          · skip
            exact absurd rfl hw
        · skip
          refine lv_aload_n hx hb dX2_renew_59 rfl (lv_at hl 3 rfl) ?_
          refine lv_aload_n hx hb dX2_renew_60 rfl (lv_at hl 2 rfl) ?_
          refine va_getN (D := G) (ci := 0) (v := .int (N 1)) (C := RX0) (T := TX0) (N := 11) hx hb hts hiRX0 hown hK hP 4 rfl rfl 1 (by decide) (va_Nw.use rfl (hE.1 (.fieldLinkNest RX2 74 "NameAuction$Name" "holder" "I" RX2) (by decide +kernel))) (fun _ h9 => h9) rfl dX2_renew_61 ?_
          refine lv_iload hx hb dX2_renew_64 (lv_at hl 0 rfl) ?_
          refine gci (va_runV (As := [.int (N 1), .int (p1 * 20)]) (rest := []) ⟨hx, hb, hml, hown, hts⟩ (kX2_canPay l G T na mo nm rs D mny nA rA (N 1) (p1 * 20) _) (cwV 2 hts gX2_renew_X2_canPay rfl rfl rfl (by decide +kernel) ⟨Nat.le_of_ble_eq_true rfl, Nat.le_of_ble_eq_true rfl⟩) ⟨gblind, va_recv hK hP (ci := 2) (q0 := 0) rfl rfl, gpre hE hK hP hD hS hA [0, 1, 2, 3] rfl rfl⟩ rfl rfl hl.1 rfl (lv_room (Nat.le_of_ble_eq_true rfl)) dX2_renew_66 ⟨Nat.le_of_ble_eq_true rfl, Nat.le_of_ble_eq_true rfl⟩) hP hD hS hA [0, 1, 2, 3] rfl rfl (fun r9 H locs hw hP hD hS => ?_)
          have hP : va_P G vwCl ((cA T na mo nm rs D mny nA rA) ++ (cN T (nA j) x2 x3 N f g)) H := hP
          have hD : va_D (va_A ((cA T na mo nm rs D mny nA rA) ++ (cN T (nA j) x2 x3 N f g)) s.heap.size) ((cA T na mo nm rs D mny nA rA) ++ (cN T (nA j) x2 x3 N f g)) := hD
          subst hw
          refine lv_if_eq (tgt := 76) hx hb dX2_renew_69 (by decide) (fun c69 => ?_) (fun c69 => ?_)
          · skip
            refine lv_iconst (v := 0) hx hb dX2_renew_76 (by decide) ?_
            refine gxv (vx_runS (As := [.int 0]) (rest := []) ⟨hx, hb, hml, hown, hts⟩ (kX2_checkPossible l hl0 G T 0 _) (va_cwS 1 hts gX2_renew_X2_checkPossible rfl rfl rfl (by decide +kernel) ⟨Nat.le_of_ble_eq_true rfl, Nat.le_of_ble_eq_true rfl⟩) ⟨gblind, gpre hE hK hP hD hS hA [] rfl rfl⟩ rfl rfl hl.1 rfl (lv_room (Nat.le_of_ble_eq_true rfl)) dX2_renew_77 ⟨Nat.le_of_ble_eq_true rfl, Nat.le_of_ble_eq_true rfl⟩) hP hD hS hA [] rfl rfl (fun E9 ce9 q9 H locs he hP hD hS hce hcv hcl => ?_) (fun H locs hw hP hD hS => ?_)
            · skip
              have hP : va_P G vwCl ((cA T na mo nm rs D mny nA rA) ++ (cN T (nA j) x2 x3 N f g)) H := hP
              have hD : va_D (va_A ((cA T na mo nm rs D mny nA rA) ++ (cN T (nA j) x2 x3 N f g)) s.heap.size) ((cA T na mo nm rs D mny nA rA) ++ (cN T (nA j) x2 x3 N f g)) := hD
              exact gout (pe := fun E => pK (kRenew D mny N p0 p1) E) ht hlocks (by obtain ⟨h8, h9⟩ := he; subst h8; simp [pK, kRenew, h9, c43, c56, c69, hok3, hok9]) hP hS hce hcv hcl (Nat.le_of_ble_eq_true rfl) (Nat.le_of_ble_eq_true rfl)
            · skip
              exact absurd rfl hw
          · skip
            refine lv_iconst (v := 1) hx hb dX2_renew_72 (by decide) ?_
            refine lv_goto (tgt := 77) hx hb dX2_renew_73 (by decide) ?_
            refine gxv (vx_runS (As := [.int 1]) (rest := []) ⟨hx, hb, hml, hown, hts⟩ (kX2_checkPossible l hl0 G T 1 _) (va_cwS 1 hts gX2_renew_X2_checkPossible rfl rfl rfl (by decide +kernel) ⟨Nat.le_of_ble_eq_true rfl, Nat.le_of_ble_eq_true rfl⟩) ⟨gblind, gpre hE hK hP hD hS hA [] rfl rfl⟩ rfl rfl hl.1 rfl (lv_room (Nat.le_of_ble_eq_true rfl)) dX2_renew_77 ⟨Nat.le_of_ble_eq_true rfl, Nat.le_of_ble_eq_true rfl⟩) hP hD hS hA [] rfl rfl (fun E9 ce9 q9 H locs he hP hD hS hce hcv hcl => ?_) (fun H locs hw hP hD hS => ?_)
            · skip
              have hP : va_P G vwCl ((cA T na mo nm rs D mny nA rA) ++ (cN T (nA j) x2 x3 N f g)) H := hP
              have hD : va_D (va_A ((cA T na mo nm rs D mny nA rA) ++ (cN T (nA j) x2 x3 N f g)) s.heap.size) ((cA T na mo nm rs D mny nA rA) ++ (cN T (nA j) x2 x3 N f g)) := hD
              exact absurd he.2 (by decide)
            · skip
              have hP : va_P G vwCl ((cA T na mo nm rs D mny nA rA) ++ (cN T (nA j) x2 x3 N f g)) H := hP
              have hD : va_D (va_A ((cA T na mo nm rs D mny nA rA) ++ (cN T (nA j) x2 x3 N f g)) s.heap.size) ((cA T na mo nm rs D mny nA rA) ++ (cN T (nA j) x2 x3 N f g)) := hD
              have hok77 := hw
              refine lv_aload_n hx hb dX2_renew_80 rfl (lv_at hl 3 rfl) ?_
              refine lv_aload_n hx hb dX2_renew_81 rfl (lv_at hl 2 rfl) ?_
              refine va_getN (D := G) (ci := 0) (v := .int (N 1)) (C := RX0) (T := TX0) (N := 11) hx hb hts hiRX0 hown hK hP 4 rfl rfl 1 (by decide) (va_Nw.use rfl (hE.1 (.fieldLinkNest RX2 74 "NameAuction$Name" "holder" "I" RX2) (by decide +kernel))) (fun _ h9 => h9) rfl dX2_renew_82 ?_
              refine lv_iload hx hb dX2_renew_85 (lv_at hl 0 rfl) ?_
              refine gcv (va_runV (As := [.int (N 1), .int (p1 * 20)]) (rest := []) ⟨hx, hb, hml, hown, hts⟩ (kX2_pay l G T na mo nm rs D mny nA rA (N 1) (p1 * 20) _) (cwV 2 hts gX2_renew_X2_pay rfl rfl rfl (by decide +kernel) ⟨Nat.le_of_ble_eq_true rfl, Nat.le_of_ble_eq_true rfl⟩) ⟨gblind, va_recv hK hP (ci := 2) (q0 := 0) rfl rfl, gpre hE hK hP hD hS hA [0, 1, 2, 3] rfl rfl⟩ rfl rfl hl.1 rfl (lv_room (Nat.le_of_ble_eq_true rfl)) dX2_renew_87 ⟨Nat.le_of_ble_eq_true rfl, Nat.le_of_ble_eq_true rfl⟩) hP hD hS hA [0, 1, 2, 3] rfl rfl (fun H locs hw hP hD hS => ?_)
              have hP : va_P G vwCl ((cA T na mo nm rs (sPayD D mny (N 1) (p1 * 20)) (sPayF mny (N 1) (p1 * 20)) nA rA) ++ (cN T (nA j) x2 x3 N f g)) H := hP
              have hD : va_D (va_A ((cA T na mo nm rs D mny nA rA) ++ (cN T (nA j) x2 x3 N f g)) s.heap.size) ((cA T na mo nm rs (sPayD D mny (N 1) (p1 * 20)) (sPayF mny (N 1) (p1 * 20)) nA rA) ++ (cN T (nA j) x2 x3 N f g)) := hD
              refine lv_aload_n hx hb dX2_renew_90 rfl (lv_at hl 2 rfl) ?_
              refine lv_iload hx hb dX2_renew_91 (lv_at hl 1 rfl) ?_
              refine va_putN (D := G) (ci := 0) (v := .int ((N 3) + (p1 * 100))) (ty := .int) (C := RX0) (T := TX0) (N := 11) hx hb hts hiRX0 tyX0 tyX0_ok nmX0 hown hK hP hD hS 4 rfl rfl 3 (by decide) (va_Nw.use rfl (hE.1 (.fieldLinkNest RX2 67 "NameAuction$Name" "end" "I" RX2) (by decide +kernel))) (fun _ h9 => h9) rfl (by decide +kernel) rfl rfl (Nat.le_of_ble_eq_true rfl) dX2_renew_93 (fun H locs hP hD hS => ?_)
              have hP : va_P G vwCl ((cA T na mo nm rs (sPayD D mny (N 1) (p1 * 20)) (sPayF mny (N 1) (p1 * 20)) nA rA) ++ (cN T (nA j) x2 x3 (upd N 3 ((N 3) + (p1 * 100))) f g)) H := hP
              have hD : va_D (va_A ((cA T na mo nm rs D mny nA rA) ++ (cN T (nA j) x2 x3 N f g)) s.heap.size) ((cA T na mo nm rs (sPayD D mny (N 1) (p1 * 20)) (sPayF mny (N 1) (p1 * 20)) nA rA) ++ (cN T (nA j) x2 x3 (upd N 3 ((N 3) + (p1 * 100))) f g)) := hD
              refine lv_aload_n hx hb dX2_renew_96 rfl (lv_at hl 2 rfl) ?_
              refine lv_iconst (v := 2) hx hb dX2_renew_97 (by decide) ?_
              refine va_putN (D := G) (ci := 0) (v := .int 2) (ty := .int) (C := RX0) (T := TX0) (N := 11) hx hb hts hiRX0 tyX0 tyX0_ok nmX0 hown hK hP hD hS 4 rfl rfl 0 (by decide) (va_Nw.use rfl (hE.1 (.fieldLinkNest RX2 36 "NameAuction$Name" "phase" "I" RX2) (by decide +kernel))) (fun _ h9 => h9) rfl (by decide +kernel) rfl rfl (Nat.le_of_ble_eq_true rfl) dX2_renew_98 (fun H locs hP hD hS => ?_)
              have hP : va_P G vwCl ((cA T na mo nm rs (sPayD D mny (N 1) (p1 * 20)) (sPayF mny (N 1) (p1 * 20)) nA rA) ++ (cN T (nA j) x2 x3 (upd (upd N 3 ((N 3) + (p1 * 100))) 0 2) f g)) H := hP
              have hD : va_D (va_A ((cA T na mo nm rs D mny nA rA) ++ (cN T (nA j) x2 x3 N f g)) s.heap.size) ((cA T na mo nm rs (sPayD D mny (N 1) (p1 * 20)) (sPayF mny (N 1) (p1 * 20)) nA rA) ++ (cN T (nA j) x2 x3 (upd (upd N 3 ((N 3) + (p1 * 100))) 0 2) f g)) := hD
              refine lv_iload hx hb dX2_renew_101 (lv_at hl 1 rfl) ?_
              refine vx_ret ?_
              exact W.iret (v := (N 3) + (p1 * 100)) hx hb hr (fun t ht9 hW => ⟨⟨(N 3) + (p1 * 100), (), rfl, ⟨(by simp [kRenew, c43, c56, c69, hok3, hok9, hok77]), rfl⟩, gBi ht9 (gfin hP (rfl))⟩, hS.F ht9⟩) hS.2.2 dX2_renew_103
abbrev PX2_redeem (G : va_G) (T : Nat → ClassId) (na mo nm rs : Nat) (D mny : Nat → Int32) (nA rA : Nat → Nat) (j x2 x3 : Nat) (N f g : Nat → Int32) (p0 : Int32) (sz : Nat) : Array Value → State → Prop := gPc G T [.ref na, .int p0] ((cA T na mo nm rs D mny nA rA) ++ (cN T (nA j) x2 x3 N f g)) sz
abbrev QX2_redeem (G : va_G) (T : Nat → ClassId) (na mo nm rs : Nat) (D mny : Nat → Int32) (nA rA : Nat → Nat) (j x2 x3 : Nat) (N f g : Nat → Int32) (p0 : Int32) (sz : Nat) : Array Value → State → Outcome → State → Prop := va_Qi (fun (r : Int32) (_ : Unit) => kRedeem mny N p0 = 0 ∧ r = sPayD D mny (N 1) 50 3 + 100) (gB G ((cA T na mo nm rs (sPayD D mny (N 1) 50) (sPayF mny (N 1) 50) nA rA) ++ (cN T (nA j) x2 x3 (upd (upd (upd (upd (upd N 0 2) 1 (N 1)) 3 ((sPayD D mny (N 1) 50) 3 + 100)) 4 0) 5 10) (fun _ => 0) g))) (va_A ((cA T na mo nm rs D mny nA rA) ++ (cN T (nA j) x2 x3 N f g)) sz)
abbrev XX2_redeem (G : va_G) (T : Nat → ClassId) (na mo nm rs : Nat) (D mny : Nat → Int32) (nA rA : Nat → Nat) (j x2 x3 : Nat) (N f g : Nat → Int32) (p0 : Int32) (sz : Nat) : String → State → State → Prop := gX G ((cA T na mo nm rs D mny nA rA) ++ (cN T (nA j) x2 x3 N f g)) sz (fun E => pK (kRedeem mny N p0) E)
set_option maxHeartbeats 4000000 in
set_option maxRecDepth 100000 in
theorem kX2_redeem (l : Launch) (hl0 : l.stackTraces = false) (G : va_G) (T : Nat → ClassId) (na mo nm rs : Nat) (D mny : Nat → Int32) (nA rA : Nat → Nat) (j x2 x3 : Nat) (N f g : Nat → Int32) (p0 : Int32) (sz : Nat) (hj : okI p0 16 = true → p0 = nI j ∧ j < 16) : vx_Met l yX2_redeem wsX2_redeem ({ frames := 7, cells := 2, slots := 12, locals := 102 } : Room) (PX2_redeem G T na mo nm rs D mny nA rA j x2 x3 N f g p0 sz) (QX2_redeem G T na mo nm rs D mny nA rA j x2 x3 N f g p0 sz) (XX2_redeem G T na mo nm rs D mny nA rA j x2 x3 N f g p0 sz) 2 12 (va_A ((cA T na mo nm rs D mny nA rA) ++ (cN T (nA j) x2 x3 N f g)) sz) := by
  refine vx_ofW (cc := cX2_redeem) (maxL := 3) (ret := (some .int)) (by decide) rfl ?_
  intro p e s m args below meth c s₁ B hml ht hv
  obtain ⟨rfl, hsz, hP, hK, hD0, hE⟩ := hv
  have hx := B.exec
  have hb := B.bytes
  have hr := B.returns
  have hts := atoms_spec (ws := wsX2_redeem) B.pre
  have hown : s.vm.findClass RX2 = some m.cls := findClass_of_methodNamed B.named
  have hlocks := B.notSynchronized
  subst hsz
  have hD := hD0.self (sz := s.heap.size)
  have hA : ∀ q : Nat, s.heap.size ≤ q → (va_A ((cA T na mo nm rs D mny nA rA) ++ (cN T (nA j) x2 x3 N f g)) s.heap.size) q := fun q h => Or.inr h
  have hS : va_S (va_A ((cA T na mo nm rs D mny nA rA) ++ (cN T (nA j) x2 x3 N f g)) s.heap.size) s.heap s.heap [] := va_S.rf
  have hiRX0 : ∀ w ∈ u_ws RX0 TX0 11, w ∈ wsX2_redeem := by decide +kernel
  have hiRX2 : ∀ w ∈ u_ws RX2 TX2 6, w ∈ wsX2_redeem := by decide +kernel
  have hl := lv_entry ([.ref na, .int p0]) (n := 3) (Nat.le_of_ble_eq_true rfl)
  rw [lg_entry_eq]
  generalize (lg_sl ([.ref na, .int p0]) ++ List.replicate (3 - (lg_sl ([.ref na, .int p0])).length) Slot.unset).toArray = ls at hl ⊢
  have hl : lv_has ls 3 [(0, .ref na), (1, .int p0)] := hl
  have hP : va_P G vwCl ((cA T na mo nm rs D mny nA rA) ++ (cN T (nA j) x2 x3 N f g)) s.heap := hP
  refine lv_iload_n hx hb dX2_redeem_0 rfl (lv_at hl 1 rfl) ?_
  refine lv_bipush (v := 16) hx hb dX2_redeem_1 (by decide) ?_
  refine gxv (vx_runS (As := [.int p0, .int 16]) (rest := []) ⟨hx, hb, hml, hown, hts⟩ (kX2_checkIndex l hl0 G T p0 16 _) (va_cwS 2 hts gX2_redeem_X2_checkIndex rfl rfl rfl (by decide +kernel) ⟨Nat.le_of_ble_eq_true rfl, Nat.le_of_ble_eq_true rfl⟩) ⟨gblind, gpre hE hK hP hD hS hA [] rfl rfl⟩ rfl rfl hl.1 rfl (lv_room (Nat.le_of_ble_eq_true rfl)) dX2_redeem_3 ⟨Nat.le_of_ble_eq_true rfl, Nat.le_of_ble_eq_true rfl⟩) hP hD hS hA [] rfl rfl (fun E9 ce9 q9 H locs he hP hD hS hce hcv hcl => ?_) (fun H locs hw hP hD hS => ?_)
  · skip
    have hP : va_P G vwCl ((cA T na mo nm rs D mny nA rA) ++ (cN T (nA j) x2 x3 N f g)) H := hP
    have hD : va_D (va_A ((cA T na mo nm rs D mny nA rA) ++ (cN T (nA j) x2 x3 N f g)) s.heap.size) ((cA T na mo nm rs D mny nA rA) ++ (cN T (nA j) x2 x3 N f g)) := hD
    exact gout (pe := fun E => pK (kRedeem mny N p0) E) ht hlocks (by obtain ⟨h8, h9⟩ := he; subst h8; simp [pK, kRedeem, h9]) hP hS hce hcv hcl (Nat.le_of_ble_eq_true rfl) (Nat.le_of_ble_eq_true rfl)
  · skip
    have hP : va_P G vwCl ((cA T na mo nm rs D mny nA rA) ++ (cN T (nA j) x2 x3 N f g)) H := hP
    have hD : va_D (va_A ((cA T na mo nm rs D mny nA rA) ++ (cN T (nA j) x2 x3 N f g)) s.heap.size) ((cA T na mo nm rs D mny nA rA) ++ (cN T (nA j) x2 x3 N f g)) := hD
    have hok3 := hw
    have e1 := hj hok3
    refine lv_aload_n hx hb dX2_redeem_6 rfl (lv_at hl 0 rfl) ?_
    refine va_get (D := G) (ci := 2) (v := .ref nm) (C := RX2) (T := TX2) (N := 6) hx hb hts hiRX2 hown hK hP 0 rfl rfl 1 (by decide) (hts (.fieldLink RX2 15 "NameAuction" "names" "[LNameAuction$Name;") (by decide +kernel)) (fun _ h9 => h9) rfl dX2_redeem_7 ?_
    refine lv_iload_n hx hb dX2_redeem_10 rfl (lv_at hl 1 rfl) ?_
    refine galdr (j := j) hx hb hK hP 2 2 rfl rfl e1.1 e1.2 (by decide) dX2_redeem_11 ?_
    refine lv_astore_n (lv' := [(2, .ref (nA j)), (0, .ref na), (1, .int p0)]) hx hb dX2_redeem_12 rfl hl (by decide) rfl (fun ls hl => ?_)
    refine lv_aload_n hx hb dX2_redeem_13 rfl (lv_at hl 0 rfl) ?_
    refine va_getN (D := G) (ci := 0) (v := .int (N 0)) (C := RX0) (T := TX0) (N := 11) hx hb hts hiRX0 hown hK hP 4 rfl rfl 0 (by decide) (va_Nw.use rfl (hE.1 (.fieldLinkNest RX2 36 "NameAuction$Name" "phase" "I" RX2) (by decide +kernel))) (fun _ h9 => h9) rfl dX2_redeem_14 ?_
    refine lv_iconst (v := 4) hx hb dX2_redeem_17 (by decide) ?_
    refine lv_icmp_ne (tgt := 38) hx hb dX2_redeem_18 (by decide) (fun c18 => ?_) (fun c18 => ?_)
    · skip
      refine lv_iconst (v := 0) hx hb dX2_redeem_38 (by decide) ?_
      refine gxv (vx_runS (As := [.int 0]) (rest := []) ⟨hx, hb, hml, hown, hts⟩ (kX2_checkPossible l hl0 G T 0 _) (va_cwS 1 hts gX2_redeem_X2_checkPossible rfl rfl rfl (by decide +kernel) ⟨Nat.le_of_ble_eq_true rfl, Nat.le_of_ble_eq_true rfl⟩) ⟨gblind, gpre hE hK hP hD hS hA [] rfl rfl⟩ rfl rfl hl.1 rfl (lv_room (Nat.le_of_ble_eq_true rfl)) dX2_redeem_39 ⟨Nat.le_of_ble_eq_true rfl, Nat.le_of_ble_eq_true rfl⟩) hP hD hS hA [] rfl rfl (fun E9 ce9 q9 H locs he hP hD hS hce hcv hcl => ?_) (fun H locs hw hP hD hS => ?_)
      · skip
        have hP : va_P G vwCl ((cA T na mo nm rs D mny nA rA) ++ (cN T (nA j) x2 x3 N f g)) H := hP
        have hD : va_D (va_A ((cA T na mo nm rs D mny nA rA) ++ (cN T (nA j) x2 x3 N f g)) s.heap.size) ((cA T na mo nm rs D mny nA rA) ++ (cN T (nA j) x2 x3 N f g)) := hD
        exact gout (pe := fun E => pK (kRedeem mny N p0) E) ht hlocks (by obtain ⟨h8, h9⟩ := he; subst h8; simp [pK, kRedeem, h9, c18, hok3]) hP hS hce hcv hcl (Nat.le_of_ble_eq_true rfl) (Nat.le_of_ble_eq_true rfl)
      · skip
        exact absurd rfl hw
    · skip
      refine lv_aload_n hx hb dX2_redeem_21 rfl (lv_at hl 1 rfl) ?_
      refine lv_aload_n hx hb dX2_redeem_22 rfl (lv_at hl 0 rfl) ?_
      refine va_getN (D := G) (ci := 0) (v := .int (N 1)) (C := RX0) (T := TX0) (N := 11) hx hb hts hiRX0 hown hK hP 4 rfl rfl 1 (by decide) (va_Nw.use rfl (hE.1 (.fieldLinkNest RX2 74 "NameAuction$Name" "holder" "I" RX2) (by decide +kernel))) (fun _ h9 => h9) rfl dX2_redeem_23 ?_
      refine lv_bipush (v := 50) hx hb dX2_redeem_26 (by decide) ?_
      refine gci (va_runV (As := [.int (N 1), .int 50]) (rest := []) ⟨hx, hb, hml, hown, hts⟩ (kX2_canPay l G T na mo nm rs D mny nA rA (N 1) 50 _) (cwV 2 hts gX2_redeem_X2_canPay rfl rfl rfl (by decide +kernel) ⟨Nat.le_of_ble_eq_true rfl, Nat.le_of_ble_eq_true rfl⟩) ⟨gblind, va_recv hK hP (ci := 2) (q0 := 0) rfl rfl, gpre hE hK hP hD hS hA [0, 1, 2, 3] rfl rfl⟩ rfl rfl hl.1 rfl (lv_room (Nat.le_of_ble_eq_true rfl)) dX2_redeem_28 ⟨Nat.le_of_ble_eq_true rfl, Nat.le_of_ble_eq_true rfl⟩) hP hD hS hA [0, 1, 2, 3] rfl rfl (fun r9 H locs hw hP hD hS => ?_)
      have hP : va_P G vwCl ((cA T na mo nm rs D mny nA rA) ++ (cN T (nA j) x2 x3 N f g)) H := hP
      have hD : va_D (va_A ((cA T na mo nm rs D mny nA rA) ++ (cN T (nA j) x2 x3 N f g)) s.heap.size) ((cA T na mo nm rs D mny nA rA) ++ (cN T (nA j) x2 x3 N f g)) := hD
      subst hw
      refine lv_if_eq (tgt := 38) hx hb dX2_redeem_31 (by decide) (fun c31 => ?_) (fun c31 => ?_)
      · skip
        refine lv_iconst (v := 0) hx hb dX2_redeem_38 (by decide) ?_
        refine gxv (vx_runS (As := [.int 0]) (rest := []) ⟨hx, hb, hml, hown, hts⟩ (kX2_checkPossible l hl0 G T 0 _) (va_cwS 1 hts gX2_redeem_X2_checkPossible rfl rfl rfl (by decide +kernel) ⟨Nat.le_of_ble_eq_true rfl, Nat.le_of_ble_eq_true rfl⟩) ⟨gblind, gpre hE hK hP hD hS hA [] rfl rfl⟩ rfl rfl hl.1 rfl (lv_room (Nat.le_of_ble_eq_true rfl)) dX2_redeem_39 ⟨Nat.le_of_ble_eq_true rfl, Nat.le_of_ble_eq_true rfl⟩) hP hD hS hA [] rfl rfl (fun E9 ce9 q9 H locs he hP hD hS hce hcv hcl => ?_) (fun H locs hw hP hD hS => ?_)
        · skip
          have hP : va_P G vwCl ((cA T na mo nm rs D mny nA rA) ++ (cN T (nA j) x2 x3 N f g)) H := hP
          have hD : va_D (va_A ((cA T na mo nm rs D mny nA rA) ++ (cN T (nA j) x2 x3 N f g)) s.heap.size) ((cA T na mo nm rs D mny nA rA) ++ (cN T (nA j) x2 x3 N f g)) := hD
          exact gout (pe := fun E => pK (kRedeem mny N p0) E) ht hlocks (by obtain ⟨h8, h9⟩ := he; subst h8; simp [pK, kRedeem, h9, c18, c31, hok3]) hP hS hce hcv hcl (Nat.le_of_ble_eq_true rfl) (Nat.le_of_ble_eq_true rfl)
        · skip
          exact absurd rfl hw
      · skip
        refine lv_iconst (v := 1) hx hb dX2_redeem_34 (by decide) ?_
        refine lv_goto (tgt := 39) hx hb dX2_redeem_35 (by decide) ?_
        refine gxv (vx_runS (As := [.int 1]) (rest := []) ⟨hx, hb, hml, hown, hts⟩ (kX2_checkPossible l hl0 G T 1 _) (va_cwS 1 hts gX2_redeem_X2_checkPossible rfl rfl rfl (by decide +kernel) ⟨Nat.le_of_ble_eq_true rfl, Nat.le_of_ble_eq_true rfl⟩) ⟨gblind, gpre hE hK hP hD hS hA [] rfl rfl⟩ rfl rfl hl.1 rfl (lv_room (Nat.le_of_ble_eq_true rfl)) dX2_redeem_39 ⟨Nat.le_of_ble_eq_true rfl, Nat.le_of_ble_eq_true rfl⟩) hP hD hS hA [] rfl rfl (fun E9 ce9 q9 H locs he hP hD hS hce hcv hcl => ?_) (fun H locs hw hP hD hS => ?_)
        · skip
          have hP : va_P G vwCl ((cA T na mo nm rs D mny nA rA) ++ (cN T (nA j) x2 x3 N f g)) H := hP
          have hD : va_D (va_A ((cA T na mo nm rs D mny nA rA) ++ (cN T (nA j) x2 x3 N f g)) s.heap.size) ((cA T na mo nm rs D mny nA rA) ++ (cN T (nA j) x2 x3 N f g)) := hD
          exact absurd he.2 (by decide)
        · skip
          have hP : va_P G vwCl ((cA T na mo nm rs D mny nA rA) ++ (cN T (nA j) x2 x3 N f g)) H := hP
          have hD : va_D (va_A ((cA T na mo nm rs D mny nA rA) ++ (cN T (nA j) x2 x3 N f g)) s.heap.size) ((cA T na mo nm rs D mny nA rA) ++ (cN T (nA j) x2 x3 N f g)) := hD
          have hok39 := hw
          refine lv_aload_n hx hb dX2_redeem_42 rfl (lv_at hl 1 rfl) ?_
          refine lv_aload_n hx hb dX2_redeem_43 rfl (lv_at hl 0 rfl) ?_
          refine va_getN (D := G) (ci := 0) (v := .int (N 1)) (C := RX0) (T := TX0) (N := 11) hx hb hts hiRX0 hown hK hP 4 rfl rfl 1 (by decide) (va_Nw.use rfl (hE.1 (.fieldLinkNest RX2 74 "NameAuction$Name" "holder" "I" RX2) (by decide +kernel))) (fun _ h9 => h9) rfl dX2_redeem_44 ?_
          refine lv_bipush (v := 50) hx hb dX2_redeem_47 (by decide) ?_
          refine gcv (va_runV (As := [.int (N 1), .int 50]) (rest := []) ⟨hx, hb, hml, hown, hts⟩ (kX2_pay l G T na mo nm rs D mny nA rA (N 1) 50 _) (cwV 2 hts gX2_redeem_X2_pay rfl rfl rfl (by decide +kernel) ⟨Nat.le_of_ble_eq_true rfl, Nat.le_of_ble_eq_true rfl⟩) ⟨gblind, va_recv hK hP (ci := 2) (q0 := 0) rfl rfl, gpre hE hK hP hD hS hA [0, 1, 2, 3] rfl rfl⟩ rfl rfl hl.1 rfl (lv_room (Nat.le_of_ble_eq_true rfl)) dX2_redeem_49 ⟨Nat.le_of_ble_eq_true rfl, Nat.le_of_ble_eq_true rfl⟩) hP hD hS hA [0, 1, 2, 3] rfl rfl (fun H locs hw hP hD hS => ?_)
          have hP : va_P G vwCl ((cA T na mo nm rs (sPayD D mny (N 1) 50) (sPayF mny (N 1) 50) nA rA) ++ (cN T (nA j) x2 x3 N f g)) H := hP
          have hD : va_D (va_A ((cA T na mo nm rs D mny nA rA) ++ (cN T (nA j) x2 x3 N f g)) s.heap.size) ((cA T na mo nm rs (sPayD D mny (N 1) 50) (sPayF mny (N 1) 50) nA rA) ++ (cN T (nA j) x2 x3 N f g)) := hD
          refine lv_aload_n hx hb dX2_redeem_52 rfl (lv_at hl 0 rfl) ?_
          refine lv_aload_n hx hb dX2_redeem_53 rfl (lv_at hl 0 rfl) ?_
          refine va_getN (D := G) (ci := 0) (v := .int (N 1)) (C := RX0) (T := TX0) (N := 11) hx hb hts hiRX0 hown hK hP 4 rfl rfl 1 (by decide) (va_Nw.use rfl (hE.1 (.fieldLinkNest RX2 74 "NameAuction$Name" "holder" "I" RX2) (by decide +kernel))) (fun _ h9 => h9) rfl dX2_redeem_54 ?_
          refine lv_aload_n hx hb dX2_redeem_57 rfl (lv_at hl 1 rfl) ?_
          refine va_get (D := G) (ci := 2) (v := .int ((sPayD D mny (N 1) 50) 3)) (C := RX2) (T := TX2) (N := 6) hx hb hts hiRX2 hown hK hP 0 rfl rfl 3 (by decide) (hts (.fieldLink RX2 44 "NameAuction" "day" "I") (by decide +kernel)) (fun _ h9 => h9) rfl dX2_redeem_58 ?_
          refine gcv (va_runVN (As := [.int (N 1), .int ((sPayD D mny (N 1) 50) 3)]) (rest := []) ⟨hx, hb, hml, hown, hts⟩ (kX0_leaseTo l G T (nA j) x2 x3 N f g (N 1) ((sPayD D mny (N 1) 50) 3) _) ⟨(va_cnB 2 hts ggX2_redeem_X0_leaseTo rfl rfl rfl (hE.1 (.methodLinkNest RX2 84 yX0_leaseTo RX2) (by decide +kernel)) (hts (.initialized RX0) (by decide +kernel)) (by decide +kernel) ⟨Nat.le_of_ble_eq_true rfl, Nat.le_of_ble_eq_true rfl⟩), hts (.instanceMethod yX0_leaseTo) (by decide +kernel), hts (.selects RX0 yX0_leaseTo yX0_leaseTo) (by decide +kernel)⟩ ⟨gblind, va_recv hK hP (ci := 0) (q0 := 4) rfl rfl, gpre hE hK hP hD hS hA [4, 5, 6] rfl rfl⟩ rfl rfl hl.1 rfl (lv_room (Nat.le_of_ble_eq_true rfl)) dX2_redeem_61 ⟨Nat.le_of_ble_eq_true rfl, Nat.le_of_ble_eq_true rfl⟩) hP hD hS hA [4, 5, 6] rfl rfl (fun H locs hw hP hD hS => ?_)
          have hP : va_P G vwCl ((cA T na mo nm rs (sPayD D mny (N 1) 50) (sPayF mny (N 1) 50) nA rA) ++ (cN T (nA j) x2 x3 (upd (upd (upd (upd (upd N 0 2) 1 (N 1)) 3 (((sPayD D mny (N 1) 50) 3) + 100)) 4 0) 5 10) (fun _ => 0) g)) H := hP
          have hD : va_D (va_A ((cA T na mo nm rs D mny nA rA) ++ (cN T (nA j) x2 x3 N f g)) s.heap.size) ((cA T na mo nm rs (sPayD D mny (N 1) 50) (sPayF mny (N 1) 50) nA rA) ++ (cN T (nA j) x2 x3 (upd (upd (upd (upd (upd N 0 2) 1 (N 1)) 3 (((sPayD D mny (N 1) 50) 3) + 100)) 4 0) 5 10) (fun _ => 0) g)) := hD
          refine lv_aload_n hx hb dX2_redeem_64 rfl (lv_at hl 0 rfl) ?_
          refine va_getN (D := G) (ci := 0) (v := .int (((sPayD D mny (N 1) 50) 3) + 100)) (C := RX0) (T := TX0) (N := 11) hx hb hts hiRX0 hown hK hP 4 rfl rfl 3 (by decide) (va_Nw.use rfl (hE.1 (.fieldLinkNest RX2 67 "NameAuction$Name" "end" "I" RX2) (by decide +kernel))) (fun _ h9 => h9) rfl dX2_redeem_65 ?_
          refine vx_ret ?_
          exact W.iret (v := ((sPayD D mny (N 1) 50) 3) + 100) hx hb hr (fun t ht9 hW => ⟨⟨((sPayD D mny (N 1) 50) 3) + 100, (), rfl, ⟨(by simp [kRedeem, c18, c31, hok3, hok39]), rfl⟩, gBi ht9 (gfin hP (rfl))⟩, hS.F ht9⟩) hS.2.2 dX2_redeem_68
abbrev PX2_setRecord (G : va_G) (T : Nat → ClassId) (na mo nm rs : Nat) (D mny : Nat → Int32) (nA rA : Nat → Nat) (j x2 x3 : Nat) (N f g : Nat → Int32) (p0 p1 p2 : Int32) (sz : Nat) : Array Value → State → Prop := gPc G T [.ref na, .int p0, .int p1, .int p2] ((cA T na mo nm rs D mny nA rA) ++ (cN T (nA j) x2 x3 N f g)) sz
abbrev QX2_setRecord (G : va_G) (T : Nat → ClassId) (na mo nm rs : Nat) (D mny : Nat → Int32) (nA rA : Nat → Nat) (j x2 x3 : Nat) (N f g : Nat → Int32) (p0 p1 p2 : Int32) (sz : Nat) : Array Value → State → Outcome → State → Prop := va_Qi (fun (r : Int32) (_ : Unit) => kSetRec N p0 p1 p2 = 0 ∧ r = N 4) (gB G ((cA T na mo nm rs D mny nA rA) ++ (cN T (nA j) x2 x3 (upd (upd N 4 p1) 5 p2) f g))) (va_A ((cA T na mo nm rs D mny nA rA) ++ (cN T (nA j) x2 x3 N f g)) sz)
abbrev XX2_setRecord (G : va_G) (T : Nat → ClassId) (na mo nm rs : Nat) (D mny : Nat → Int32) (nA rA : Nat → Nat) (j x2 x3 : Nat) (N f g : Nat → Int32) (p0 p1 p2 : Int32) (sz : Nat) : String → State → State → Prop := gX G ((cA T na mo nm rs D mny nA rA) ++ (cN T (nA j) x2 x3 N f g)) sz (fun E => pK (kSetRec N p0 p1 p2) E)
set_option maxHeartbeats 4000000 in
set_option maxRecDepth 100000 in
theorem kX2_setRecord (l : Launch) (hl0 : l.stackTraces = false) (G : va_G) (T : Nat → ClassId) (na mo nm rs : Nat) (D mny : Nat → Int32) (nA rA : Nat → Nat) (j x2 x3 : Nat) (N f g : Nat → Int32) (p0 p1 p2 : Int32) (sz : Nat) (hj : okI p0 16 = true → p0 = nI j ∧ j < 16) : vx_Met l yX2_setRecord wsX2_setRecord ({ frames := 7, cells := 4, slots := 24, locals := 103 } : Room) (PX2_setRecord G T na mo nm rs D mny nA rA j x2 x3 N f g p0 p1 p2 sz) (QX2_setRecord G T na mo nm rs D mny nA rA j x2 x3 N f g p0 p1 p2 sz) (XX2_setRecord G T na mo nm rs D mny nA rA j x2 x3 N f g p0 p1 p2 sz) 4 24 (va_A ((cA T na mo nm rs D mny nA rA) ++ (cN T (nA j) x2 x3 N f g)) sz) := by
  refine vx_ofW (cc := cX2_setRecord) (maxL := 6) (ret := (some .int)) (by decide) rfl ?_
  intro p e s m args below meth c s₁ B hml ht hv
  obtain ⟨rfl, hsz, hP, hK, hD0, hE⟩ := hv
  have hx := B.exec
  have hb := B.bytes
  have hr := B.returns
  have hts := atoms_spec (ws := wsX2_setRecord) B.pre
  have hown : s.vm.findClass RX2 = some m.cls := findClass_of_methodNamed B.named
  have hlocks := B.notSynchronized
  subst hsz
  have hD := hD0.self (sz := s.heap.size)
  have hA : ∀ q : Nat, s.heap.size ≤ q → (va_A ((cA T na mo nm rs D mny nA rA) ++ (cN T (nA j) x2 x3 N f g)) s.heap.size) q := fun q h => Or.inr h
  have hS : va_S (va_A ((cA T na mo nm rs D mny nA rA) ++ (cN T (nA j) x2 x3 N f g)) s.heap.size) s.heap s.heap [] := va_S.rf
  have hiRX0 : ∀ w ∈ u_ws RX0 TX0 11, w ∈ wsX2_setRecord := by decide +kernel
  have hiRX2 : ∀ w ∈ u_ws RX2 TX2 6, w ∈ wsX2_setRecord := by decide +kernel
  have hl := lv_entry ([.ref na, .int p0, .int p1, .int p2]) (n := 6) (Nat.le_of_ble_eq_true rfl)
  rw [lg_entry_eq]
  generalize (lg_sl ([.ref na, .int p0, .int p1, .int p2]) ++ List.replicate (6 - (lg_sl ([.ref na, .int p0, .int p1, .int p2])).length) Slot.unset).toArray = ls at hl ⊢
  have hl : lv_has ls 6 [(0, .ref na), (1, .int p0), (2, .int p1), (3, .int p2)] := hl
  have hP : va_P G vwCl ((cA T na mo nm rs D mny nA rA) ++ (cN T (nA j) x2 x3 N f g)) s.heap := hP
  refine lv_iload_n hx hb dX2_setRecord_0 rfl (lv_at hl 1 rfl) ?_
  refine lv_bipush (v := 16) hx hb dX2_setRecord_1 (by decide) ?_
  refine gxv (vx_runS (As := [.int p0, .int 16]) (rest := []) ⟨hx, hb, hml, hown, hts⟩ (kX2_checkIndex l hl0 G T p0 16 _) (va_cwS 2 hts gX2_setRecord_X2_checkIndex rfl rfl rfl (by decide +kernel) ⟨Nat.le_of_ble_eq_true rfl, Nat.le_of_ble_eq_true rfl⟩) ⟨gblind, gpre hE hK hP hD hS hA [] rfl rfl⟩ rfl rfl hl.1 rfl (lv_room (Nat.le_of_ble_eq_true rfl)) dX2_setRecord_3 ⟨Nat.le_of_ble_eq_true rfl, Nat.le_of_ble_eq_true rfl⟩) hP hD hS hA [] rfl rfl (fun E9 ce9 q9 H locs he hP hD hS hce hcv hcl => ?_) (fun H locs hw hP hD hS => ?_)
  · skip
    have hP : va_P G vwCl ((cA T na mo nm rs D mny nA rA) ++ (cN T (nA j) x2 x3 N f g)) H := hP
    have hD : va_D (va_A ((cA T na mo nm rs D mny nA rA) ++ (cN T (nA j) x2 x3 N f g)) s.heap.size) ((cA T na mo nm rs D mny nA rA) ++ (cN T (nA j) x2 x3 N f g)) := hD
    exact gout (pe := fun E => pK (kSetRec N p0 p1 p2) E) ht hlocks (by obtain ⟨h8, h9⟩ := he; subst h8; simp [pK, kSetRec, h9]) hP hS hce hcv hcl (Nat.le_of_ble_eq_true rfl) (Nat.le_of_ble_eq_true rfl)
  · skip
    have hP : va_P G vwCl ((cA T na mo nm rs D mny nA rA) ++ (cN T (nA j) x2 x3 N f g)) H := hP
    have hD : va_D (va_A ((cA T na mo nm rs D mny nA rA) ++ (cN T (nA j) x2 x3 N f g)) s.heap.size) ((cA T na mo nm rs D mny nA rA) ++ (cN T (nA j) x2 x3 N f g)) := hD
    have hok3 := hw
    have e1 := hj hok3
    refine lv_iload_n hx hb dX2_setRecord_6 rfl (lv_at hl 2 rfl) ?_
    refine lv_iconst (v := 0) hx hb dX2_setRecord_7 (by decide) ?_
    refine lv_sipush (v := 999) hx hb dX2_setRecord_8 (by decide) ?_
    refine gxv (vx_runS (As := [.int p1, .int 0, .int 999]) (rest := []) ⟨hx, hb, hml, hown, hts⟩ (kX2_checkRange l hl0 G T p1 0 999 _) (va_cwS 3 hts gX2_setRecord_X2_checkRange rfl rfl rfl (by decide +kernel) ⟨Nat.le_of_ble_eq_true rfl, Nat.le_of_ble_eq_true rfl⟩) ⟨gblind, gpre hE hK hP hD hS hA [] rfl rfl⟩ rfl rfl hl.1 rfl (lv_room (Nat.le_of_ble_eq_true rfl)) dX2_setRecord_11 ⟨Nat.le_of_ble_eq_true rfl, Nat.le_of_ble_eq_true rfl⟩) hP hD hS hA [] rfl rfl (fun E9 ce9 q9 H locs he hP hD hS hce hcv hcl => ?_) (fun H locs hw hP hD hS => ?_)
    · skip
      have hP : va_P G vwCl ((cA T na mo nm rs D mny nA rA) ++ (cN T (nA j) x2 x3 N f g)) H := hP
      have hD : va_D (va_A ((cA T na mo nm rs D mny nA rA) ++ (cN T (nA j) x2 x3 N f g)) s.heap.size) ((cA T na mo nm rs D mny nA rA) ++ (cN T (nA j) x2 x3 N f g)) := hD
      exact gout (pe := fun E => pK (kSetRec N p0 p1 p2) E) ht hlocks (by obtain ⟨h8, h9⟩ := he; subst h8; simp [pK, kSetRec, h9, hok3]) hP hS hce hcv hcl (Nat.le_of_ble_eq_true rfl) (Nat.le_of_ble_eq_true rfl)
    · skip
      have hP : va_P G vwCl ((cA T na mo nm rs D mny nA rA) ++ (cN T (nA j) x2 x3 N f g)) H := hP
      have hD : va_D (va_A ((cA T na mo nm rs D mny nA rA) ++ (cN T (nA j) x2 x3 N f g)) s.heap.size) ((cA T na mo nm rs D mny nA rA) ++ (cN T (nA j) x2 x3 N f g)) := hD
      have hok11 := hw
      refine lv_iload_n hx hb dX2_setRecord_14 rfl (lv_at hl 3 rfl) ?_
      refine lv_iconst (v := 1) hx hb dX2_setRecord_15 (by decide) ?_
      refine lv_bipush (v := 50) hx hb dX2_setRecord_16 (by decide) ?_
      refine gxv (vx_runS (As := [.int p2, .int 1, .int 50]) (rest := []) ⟨hx, hb, hml, hown, hts⟩ (kX2_checkRange l hl0 G T p2 1 50 _) (va_cwS 3 hts gX2_setRecord_X2_checkRange rfl rfl rfl (by decide +kernel) ⟨Nat.le_of_ble_eq_true rfl, Nat.le_of_ble_eq_true rfl⟩) ⟨gblind, gpre hE hK hP hD hS hA [] rfl rfl⟩ rfl rfl hl.1 rfl (lv_room (Nat.le_of_ble_eq_true rfl)) dX2_setRecord_18 ⟨Nat.le_of_ble_eq_true rfl, Nat.le_of_ble_eq_true rfl⟩) hP hD hS hA [] rfl rfl (fun E9 ce9 q9 H locs he hP hD hS hce hcv hcl => ?_) (fun H locs hw hP hD hS => ?_)
      · skip
        have hP : va_P G vwCl ((cA T na mo nm rs D mny nA rA) ++ (cN T (nA j) x2 x3 N f g)) H := hP
        have hD : va_D (va_A ((cA T na mo nm rs D mny nA rA) ++ (cN T (nA j) x2 x3 N f g)) s.heap.size) ((cA T na mo nm rs D mny nA rA) ++ (cN T (nA j) x2 x3 N f g)) := hD
        exact gout (pe := fun E => pK (kSetRec N p0 p1 p2) E) ht hlocks (by obtain ⟨h8, h9⟩ := he; subst h8; simp [pK, kSetRec, h9, hok3, hok11]) hP hS hce hcv hcl (Nat.le_of_ble_eq_true rfl) (Nat.le_of_ble_eq_true rfl)
      · skip
        have hP : va_P G vwCl ((cA T na mo nm rs D mny nA rA) ++ (cN T (nA j) x2 x3 N f g)) H := hP
        have hD : va_D (va_A ((cA T na mo nm rs D mny nA rA) ++ (cN T (nA j) x2 x3 N f g)) s.heap.size) ((cA T na mo nm rs D mny nA rA) ++ (cN T (nA j) x2 x3 N f g)) := hD
        have hok18 := hw
        refine lv_aload_n hx hb dX2_setRecord_21 rfl (lv_at hl 0 rfl) ?_
        refine va_get (D := G) (ci := 2) (v := .ref nm) (C := RX2) (T := TX2) (N := 6) hx hb hts hiRX2 hown hK hP 0 rfl rfl 1 (by decide) (hts (.fieldLink RX2 15 "NameAuction" "names" "[LNameAuction$Name;") (by decide +kernel)) (fun _ h9 => h9) rfl dX2_setRecord_22 ?_
        refine lv_iload_n hx hb dX2_setRecord_25 rfl (lv_at hl 1 rfl) ?_
        refine galdr (j := j) hx hb hK hP 2 2 rfl rfl e1.1 e1.2 (by decide) dX2_setRecord_26 ?_
        refine lv_astore (lv' := [(4, .ref (nA j)), (0, .ref na), (1, .int p0), (2, .int p1), (3, .int p2)]) hx hb dX2_setRecord_27 hl (by decide) rfl (fun ls hl => ?_)
        refine lv_aload hx hb dX2_setRecord_29 (lv_at hl 0 rfl) ?_
        refine va_getN (D := G) (ci := 0) (v := .int (N 0)) (C := RX0) (T := TX0) (N := 11) hx hb hts hiRX0 hown hK hP 4 rfl rfl 0 (by decide) (va_Nw.use rfl (hE.1 (.fieldLinkNest RX2 36 "NameAuction$Name" "phase" "I" RX2) (by decide +kernel))) (fun _ h9 => h9) rfl dX2_setRecord_31 ?_
        refine lv_iconst (v := 2) hx hb dX2_setRecord_34 (by decide) ?_
        refine lv_icmp_ne (tgt := 42) hx hb dX2_setRecord_35 (by decide) (fun c35 => ?_) (fun c35 => ?_)
        · skip
          refine lv_iconst (v := 0) hx hb dX2_setRecord_42 (by decide) ?_
          refine gxv (vx_runS (As := [.int 0]) (rest := []) ⟨hx, hb, hml, hown, hts⟩ (kX2_checkPossible l hl0 G T 0 _) (va_cwS 1 hts gX2_setRecord_X2_checkPossible rfl rfl rfl (by decide +kernel) ⟨Nat.le_of_ble_eq_true rfl, Nat.le_of_ble_eq_true rfl⟩) ⟨gblind, gpre hE hK hP hD hS hA [] rfl rfl⟩ rfl rfl hl.1 rfl (lv_room (Nat.le_of_ble_eq_true rfl)) dX2_setRecord_43 ⟨Nat.le_of_ble_eq_true rfl, Nat.le_of_ble_eq_true rfl⟩) hP hD hS hA [] rfl rfl (fun E9 ce9 q9 H locs he hP hD hS hce hcv hcl => ?_) (fun H locs hw hP hD hS => ?_)
          · skip
            have hP : va_P G vwCl ((cA T na mo nm rs D mny nA rA) ++ (cN T (nA j) x2 x3 N f g)) H := hP
            have hD : va_D (va_A ((cA T na mo nm rs D mny nA rA) ++ (cN T (nA j) x2 x3 N f g)) s.heap.size) ((cA T na mo nm rs D mny nA rA) ++ (cN T (nA j) x2 x3 N f g)) := hD
            exact gout (pe := fun E => pK (kSetRec N p0 p1 p2) E) ht hlocks (by obtain ⟨h8, h9⟩ := he; subst h8; simp [pK, kSetRec, h9, c35, hok3, hok11, hok18]) hP hS hce hcv hcl (Nat.le_of_ble_eq_true rfl) (Nat.le_of_ble_eq_true rfl)
          · skip
            exact absurd rfl hw
        · skip
          refine lv_iconst (v := 1) hx hb dX2_setRecord_38 (by decide) ?_
          refine lv_goto (tgt := 43) hx hb dX2_setRecord_39 (by decide) ?_
          refine gxv (vx_runS (As := [.int 1]) (rest := []) ⟨hx, hb, hml, hown, hts⟩ (kX2_checkPossible l hl0 G T 1 _) (va_cwS 1 hts gX2_setRecord_X2_checkPossible rfl rfl rfl (by decide +kernel) ⟨Nat.le_of_ble_eq_true rfl, Nat.le_of_ble_eq_true rfl⟩) ⟨gblind, gpre hE hK hP hD hS hA [] rfl rfl⟩ rfl rfl hl.1 rfl (lv_room (Nat.le_of_ble_eq_true rfl)) dX2_setRecord_43 ⟨Nat.le_of_ble_eq_true rfl, Nat.le_of_ble_eq_true rfl⟩) hP hD hS hA [] rfl rfl (fun E9 ce9 q9 H locs he hP hD hS hce hcv hcl => ?_) (fun H locs hw hP hD hS => ?_)
          · skip
            have hP : va_P G vwCl ((cA T na mo nm rs D mny nA rA) ++ (cN T (nA j) x2 x3 N f g)) H := hP
            have hD : va_D (va_A ((cA T na mo nm rs D mny nA rA) ++ (cN T (nA j) x2 x3 N f g)) s.heap.size) ((cA T na mo nm rs D mny nA rA) ++ (cN T (nA j) x2 x3 N f g)) := hD
            exact absurd he.2 (by decide)
          · skip
            have hP : va_P G vwCl ((cA T na mo nm rs D mny nA rA) ++ (cN T (nA j) x2 x3 N f g)) H := hP
            have hD : va_D (va_A ((cA T na mo nm rs D mny nA rA) ++ (cN T (nA j) x2 x3 N f g)) s.heap.size) ((cA T na mo nm rs D mny nA rA) ++ (cN T (nA j) x2 x3 N f g)) := hD
            have hok43 := hw
            refine lv_aload hx hb dX2_setRecord_46 (lv_at hl 0 rfl) ?_
            refine va_getN (D := G) (ci := 0) (v := .int (N 4)) (C := RX0) (T := TX0) (N := 11) hx hb hts hiRX0 hown hK hP 4 rfl rfl 4 (by decide) (va_Nw.use rfl (hE.1 (.fieldLinkNest RX2 87 "NameAuction$Name" "record" "I" RX2) (by decide +kernel))) (fun _ h9 => h9) rfl dX2_setRecord_48 ?_
            refine lv_istore (lv' := [(5, .int (N 4)), (4, .ref (nA j)), (0, .ref na), (1, .int p0), (2, .int p1), (3, .int p2)]) hx hb dX2_setRecord_51 hl (by decide) rfl (fun ls hl => ?_)
            refine lv_aload hx hb dX2_setRecord_53 (lv_at hl 1 rfl) ?_
            refine lv_iload_n hx hb dX2_setRecord_55 rfl (lv_at hl 4 rfl) ?_
            refine va_putN (D := G) (ci := 0) (v := .int p1) (ty := .int) (C := RX0) (T := TX0) (N := 11) hx hb hts hiRX0 tyX0 tyX0_ok nmX0 hown hK hP hD hS 4 rfl rfl 4 (by decide) (va_Nw.use rfl (hE.1 (.fieldLinkNest RX2 87 "NameAuction$Name" "record" "I" RX2) (by decide +kernel))) (fun _ h9 => h9) rfl (by decide +kernel) rfl rfl (Nat.le_of_ble_eq_true rfl) dX2_setRecord_56 (fun H locs hP hD hS => ?_)
            have hP : va_P G vwCl ((cA T na mo nm rs D mny nA rA) ++ (cN T (nA j) x2 x3 (upd N 4 p1) f g)) H := hP
            have hD : va_D (va_A ((cA T na mo nm rs D mny nA rA) ++ (cN T (nA j) x2 x3 N f g)) s.heap.size) ((cA T na mo nm rs D mny nA rA) ++ (cN T (nA j) x2 x3 (upd N 4 p1) f g)) := hD
            refine lv_aload hx hb dX2_setRecord_59 (lv_at hl 1 rfl) ?_
            refine lv_iload_n hx hb dX2_setRecord_61 rfl (lv_at hl 5 rfl) ?_
            refine va_putN (D := G) (ci := 0) (v := .int p2) (ty := .int) (C := RX0) (T := TX0) (N := 11) hx hb hts hiRX0 tyX0 tyX0_ok nmX0 hown hK hP hD hS 4 rfl rfl 5 (by decide) (va_Nw.use rfl (hE.1 (.fieldLinkNest RX2 90 "NameAuction$Name" "lifetime" "I" RX2) (by decide +kernel))) (fun _ h9 => h9) rfl (by decide +kernel) rfl rfl (Nat.le_of_ble_eq_true rfl) dX2_setRecord_62 (fun H locs hP hD hS => ?_)
            have hP : va_P G vwCl ((cA T na mo nm rs D mny nA rA) ++ (cN T (nA j) x2 x3 (upd (upd N 4 p1) 5 p2) f g)) H := hP
            have hD : va_D (va_A ((cA T na mo nm rs D mny nA rA) ++ (cN T (nA j) x2 x3 N f g)) s.heap.size) ((cA T na mo nm rs D mny nA rA) ++ (cN T (nA j) x2 x3 (upd (upd N 4 p1) 5 p2) f g)) := hD
            refine lv_iload hx hb dX2_setRecord_65 (lv_at hl 0 rfl) ?_
            refine vx_ret ?_
            exact W.iret (v := N 4) hx hb hr (fun t ht9 hW => ⟨⟨N 4, (), rfl, ⟨(by simp [kSetRec, c35, hok3, hok11, hok18, hok43]), rfl⟩, gBi ht9 (gfin hP (rfl))⟩, hS.F ht9⟩) hS.2.2 dX2_setRecord_67
abbrev PX2_state (G : va_G) (T : Nat → ClassId) (na mo nm rs : Nat) (D mny : Nat → Int32) (nA rA : Nat → Nat) (j x2 x3 : Nat) (N f g : Nat → Int32) (p0 : Int32) (sz : Nat) : Array Value → State → Prop := gPc G T [.ref na, .int p0] ((cA T na mo nm rs D mny nA rA) ++ (cN T (nA j) x2 x3 N f g)) sz
abbrev QX2_state (G : va_G) (T : Nat → ClassId) (na mo nm rs : Nat) (D mny : Nat → Int32) (nA rA : Nat → Nat) (j x2 x3 : Nat) (N f g : Nat → Int32) (p0 : Int32) (sz : Nat) : Array Value → State → Outcome → State → Prop := va_Qi (fun (r : Int32) (_ : Unit) => kNam p0 = 0 ∧ r = N 0) (gB G ((cA T na mo nm rs D mny nA rA) ++ (cN T (nA j) x2 x3 N f g))) (va_A ((cA T na mo nm rs D mny nA rA) ++ (cN T (nA j) x2 x3 N f g)) sz)
abbrev XX2_state (G : va_G) (T : Nat → ClassId) (na mo nm rs : Nat) (D mny : Nat → Int32) (nA rA : Nat → Nat) (j x2 x3 : Nat) (N f g : Nat → Int32) (p0 : Int32) (sz : Nat) : String → State → State → Prop := gX G ((cA T na mo nm rs D mny nA rA) ++ (cN T (nA j) x2 x3 N f g)) sz (fun E => pK (kNam p0) E)
set_option maxHeartbeats 4000000 in
set_option maxRecDepth 100000 in
theorem kX2_state (l : Launch) (hl0 : l.stackTraces = false) (G : va_G) (T : Nat → ClassId) (na mo nm rs : Nat) (D mny : Nat → Int32) (nA rA : Nat → Nat) (j x2 x3 : Nat) (N f g : Nat → Int32) (p0 : Int32) (sz : Nat) (hj : okI p0 16 = true → p0 = nI j ∧ j < 16) : vx_Met l yX2_state wsX2_state ({ frames := 7, cells := 1, slots := 6, locals := 102 } : Room) (PX2_state G T na mo nm rs D mny nA rA j x2 x3 N f g p0 sz) (QX2_state G T na mo nm rs D mny nA rA j x2 x3 N f g p0 sz) (XX2_state G T na mo nm rs D mny nA rA j x2 x3 N f g p0 sz) 1 6 (va_A ((cA T na mo nm rs D mny nA rA) ++ (cN T (nA j) x2 x3 N f g)) sz) := by
  refine vx_ofW (cc := cX2_state) (maxL := 2) (ret := (some .int)) (by decide) rfl ?_
  intro p e s m args below meth c s₁ B hml ht hv
  obtain ⟨rfl, hsz, hP, hK, hD0, hE⟩ := hv
  have hx := B.exec
  have hb := B.bytes
  have hr := B.returns
  have hts := atoms_spec (ws := wsX2_state) B.pre
  have hown : s.vm.findClass RX2 = some m.cls := findClass_of_methodNamed B.named
  have hlocks := B.notSynchronized
  subst hsz
  have hD := hD0.self (sz := s.heap.size)
  have hA : ∀ q : Nat, s.heap.size ≤ q → (va_A ((cA T na mo nm rs D mny nA rA) ++ (cN T (nA j) x2 x3 N f g)) s.heap.size) q := fun q h => Or.inr h
  have hS : va_S (va_A ((cA T na mo nm rs D mny nA rA) ++ (cN T (nA j) x2 x3 N f g)) s.heap.size) s.heap s.heap [] := va_S.rf
  have hiRX0 : ∀ w ∈ u_ws RX0 TX0 11, w ∈ wsX2_state := by decide +kernel
  have hiRX2 : ∀ w ∈ u_ws RX2 TX2 6, w ∈ wsX2_state := by decide +kernel
  have hl := lv_entry ([.ref na, .int p0]) (n := 2) (Nat.le_of_ble_eq_true rfl)
  rw [lg_entry_eq]
  generalize (lg_sl ([.ref na, .int p0]) ++ List.replicate (2 - (lg_sl ([.ref na, .int p0])).length) Slot.unset).toArray = ls at hl ⊢
  have hl : lv_has ls 2 [(0, .ref na), (1, .int p0)] := hl
  have hP : va_P G vwCl ((cA T na mo nm rs D mny nA rA) ++ (cN T (nA j) x2 x3 N f g)) s.heap := hP
  refine lv_iload_n hx hb dX2_state_0 rfl (lv_at hl 1 rfl) ?_
  refine lv_bipush (v := 16) hx hb dX2_state_1 (by decide) ?_
  refine gxv (vx_runS (As := [.int p0, .int 16]) (rest := []) ⟨hx, hb, hml, hown, hts⟩ (kX2_checkIndex l hl0 G T p0 16 _) (va_cwS 2 hts gX2_state_X2_checkIndex rfl rfl rfl (by decide +kernel) ⟨Nat.le_of_ble_eq_true rfl, Nat.le_of_ble_eq_true rfl⟩) ⟨gblind, gpre hE hK hP hD hS hA [] rfl rfl⟩ rfl rfl hl.1 rfl (lv_room (Nat.le_of_ble_eq_true rfl)) dX2_state_3 ⟨Nat.le_of_ble_eq_true rfl, Nat.le_of_ble_eq_true rfl⟩) hP hD hS hA [] rfl rfl (fun E9 ce9 q9 H locs he hP hD hS hce hcv hcl => ?_) (fun H locs hw hP hD hS => ?_)
  · skip
    have hP : va_P G vwCl ((cA T na mo nm rs D mny nA rA) ++ (cN T (nA j) x2 x3 N f g)) H := hP
    have hD : va_D (va_A ((cA T na mo nm rs D mny nA rA) ++ (cN T (nA j) x2 x3 N f g)) s.heap.size) ((cA T na mo nm rs D mny nA rA) ++ (cN T (nA j) x2 x3 N f g)) := hD
    exact gout (pe := fun E => pK (kNam p0) E) ht hlocks (by obtain ⟨h8, h9⟩ := he; subst h8; simp [pK, kNam, h9]) hP hS hce hcv hcl (Nat.le_of_ble_eq_true rfl) (Nat.le_of_ble_eq_true rfl)
  · skip
    have hP : va_P G vwCl ((cA T na mo nm rs D mny nA rA) ++ (cN T (nA j) x2 x3 N f g)) H := hP
    have hD : va_D (va_A ((cA T na mo nm rs D mny nA rA) ++ (cN T (nA j) x2 x3 N f g)) s.heap.size) ((cA T na mo nm rs D mny nA rA) ++ (cN T (nA j) x2 x3 N f g)) := hD
    have hok3 := hw
    have e1 := hj hok3
    refine lv_aload_n hx hb dX2_state_6 rfl (lv_at hl 0 rfl) ?_
    refine va_get (D := G) (ci := 2) (v := .ref nm) (C := RX2) (T := TX2) (N := 6) hx hb hts hiRX2 hown hK hP 0 rfl rfl 1 (by decide) (hts (.fieldLink RX2 15 "NameAuction" "names" "[LNameAuction$Name;") (by decide +kernel)) (fun _ h9 => h9) rfl dX2_state_7 ?_
    refine lv_iload_n hx hb dX2_state_10 rfl (lv_at hl 1 rfl) ?_
    refine galdr (j := j) hx hb hK hP 2 2 rfl rfl e1.1 e1.2 (by decide) dX2_state_11 ?_
    refine va_getN (D := G) (ci := 0) (v := .int (N 0)) (C := RX0) (T := TX0) (N := 11) hx hb hts hiRX0 hown hK hP 4 rfl rfl 0 (by decide) (va_Nw.use rfl (hE.1 (.fieldLinkNest RX2 36 "NameAuction$Name" "phase" "I" RX2) (by decide +kernel))) (fun _ h9 => h9) rfl dX2_state_12 ?_
    refine vx_ret ?_
    exact W.iret (v := N 0) hx hb hr (fun t ht9 hW => ⟨⟨N 0, (), rfl, ⟨(by simp [kNam, hok3]), rfl⟩, gBi ht9 (gfin hP (rfl))⟩, hS.F ht9⟩) hS.2.2 dX2_state_15
abbrev PX2_owner (G : va_G) (T : Nat → ClassId) (na mo nm rs : Nat) (D mny : Nat → Int32) (nA rA : Nat → Nat) (j x2 x3 : Nat) (N f g : Nat → Int32) (p0 : Int32) (sz : Nat) : Array Value → State → Prop := gPc G T [.ref na, .int p0] ((cA T na mo nm rs D mny nA rA) ++ (cN T (nA j) x2 x3 N f g)) sz
abbrev QX2_owner (G : va_G) (T : Nat → ClassId) (na mo nm rs : Nat) (D mny : Nat → Int32) (nA rA : Nat → Nat) (j x2 x3 : Nat) (N f g : Nat → Int32) (p0 : Int32) (sz : Nat) : Array Value → State → Outcome → State → Prop := va_Qi (fun (r : Int32) (_ : Unit) => kNam p0 = 0 ∧ r = N 1) (gB G ((cA T na mo nm rs D mny nA rA) ++ (cN T (nA j) x2 x3 N f g))) (va_A ((cA T na mo nm rs D mny nA rA) ++ (cN T (nA j) x2 x3 N f g)) sz)
abbrev XX2_owner (G : va_G) (T : Nat → ClassId) (na mo nm rs : Nat) (D mny : Nat → Int32) (nA rA : Nat → Nat) (j x2 x3 : Nat) (N f g : Nat → Int32) (p0 : Int32) (sz : Nat) : String → State → State → Prop := gX G ((cA T na mo nm rs D mny nA rA) ++ (cN T (nA j) x2 x3 N f g)) sz (fun E => pK (kNam p0) E)
set_option maxHeartbeats 4000000 in
set_option maxRecDepth 100000 in
theorem kX2_owner (l : Launch) (hl0 : l.stackTraces = false) (G : va_G) (T : Nat → ClassId) (na mo nm rs : Nat) (D mny : Nat → Int32) (nA rA : Nat → Nat) (j x2 x3 : Nat) (N f g : Nat → Int32) (p0 : Int32) (sz : Nat) (hj : okI p0 16 = true → p0 = nI j ∧ j < 16) : vx_Met l yX2_owner wsX2_owner ({ frames := 7, cells := 1, slots := 6, locals := 102 } : Room) (PX2_owner G T na mo nm rs D mny nA rA j x2 x3 N f g p0 sz) (QX2_owner G T na mo nm rs D mny nA rA j x2 x3 N f g p0 sz) (XX2_owner G T na mo nm rs D mny nA rA j x2 x3 N f g p0 sz) 1 6 (va_A ((cA T na mo nm rs D mny nA rA) ++ (cN T (nA j) x2 x3 N f g)) sz) := by
  refine vx_ofW (cc := cX2_owner) (maxL := 2) (ret := (some .int)) (by decide) rfl ?_
  intro p e s m args below meth c s₁ B hml ht hv
  obtain ⟨rfl, hsz, hP, hK, hD0, hE⟩ := hv
  have hx := B.exec
  have hb := B.bytes
  have hr := B.returns
  have hts := atoms_spec (ws := wsX2_owner) B.pre
  have hown : s.vm.findClass RX2 = some m.cls := findClass_of_methodNamed B.named
  have hlocks := B.notSynchronized
  subst hsz
  have hD := hD0.self (sz := s.heap.size)
  have hA : ∀ q : Nat, s.heap.size ≤ q → (va_A ((cA T na mo nm rs D mny nA rA) ++ (cN T (nA j) x2 x3 N f g)) s.heap.size) q := fun q h => Or.inr h
  have hS : va_S (va_A ((cA T na mo nm rs D mny nA rA) ++ (cN T (nA j) x2 x3 N f g)) s.heap.size) s.heap s.heap [] := va_S.rf
  have hiRX0 : ∀ w ∈ u_ws RX0 TX0 11, w ∈ wsX2_owner := by decide +kernel
  have hiRX2 : ∀ w ∈ u_ws RX2 TX2 6, w ∈ wsX2_owner := by decide +kernel
  have hl := lv_entry ([.ref na, .int p0]) (n := 2) (Nat.le_of_ble_eq_true rfl)
  rw [lg_entry_eq]
  generalize (lg_sl ([.ref na, .int p0]) ++ List.replicate (2 - (lg_sl ([.ref na, .int p0])).length) Slot.unset).toArray = ls at hl ⊢
  have hl : lv_has ls 2 [(0, .ref na), (1, .int p0)] := hl
  have hP : va_P G vwCl ((cA T na mo nm rs D mny nA rA) ++ (cN T (nA j) x2 x3 N f g)) s.heap := hP
  refine lv_iload_n hx hb dX2_owner_0 rfl (lv_at hl 1 rfl) ?_
  refine lv_bipush (v := 16) hx hb dX2_owner_1 (by decide) ?_
  refine gxv (vx_runS (As := [.int p0, .int 16]) (rest := []) ⟨hx, hb, hml, hown, hts⟩ (kX2_checkIndex l hl0 G T p0 16 _) (va_cwS 2 hts gX2_owner_X2_checkIndex rfl rfl rfl (by decide +kernel) ⟨Nat.le_of_ble_eq_true rfl, Nat.le_of_ble_eq_true rfl⟩) ⟨gblind, gpre hE hK hP hD hS hA [] rfl rfl⟩ rfl rfl hl.1 rfl (lv_room (Nat.le_of_ble_eq_true rfl)) dX2_owner_3 ⟨Nat.le_of_ble_eq_true rfl, Nat.le_of_ble_eq_true rfl⟩) hP hD hS hA [] rfl rfl (fun E9 ce9 q9 H locs he hP hD hS hce hcv hcl => ?_) (fun H locs hw hP hD hS => ?_)
  · skip
    have hP : va_P G vwCl ((cA T na mo nm rs D mny nA rA) ++ (cN T (nA j) x2 x3 N f g)) H := hP
    have hD : va_D (va_A ((cA T na mo nm rs D mny nA rA) ++ (cN T (nA j) x2 x3 N f g)) s.heap.size) ((cA T na mo nm rs D mny nA rA) ++ (cN T (nA j) x2 x3 N f g)) := hD
    exact gout (pe := fun E => pK (kNam p0) E) ht hlocks (by obtain ⟨h8, h9⟩ := he; subst h8; simp [pK, kNam, h9]) hP hS hce hcv hcl (Nat.le_of_ble_eq_true rfl) (Nat.le_of_ble_eq_true rfl)
  · skip
    have hP : va_P G vwCl ((cA T na mo nm rs D mny nA rA) ++ (cN T (nA j) x2 x3 N f g)) H := hP
    have hD : va_D (va_A ((cA T na mo nm rs D mny nA rA) ++ (cN T (nA j) x2 x3 N f g)) s.heap.size) ((cA T na mo nm rs D mny nA rA) ++ (cN T (nA j) x2 x3 N f g)) := hD
    have hok3 := hw
    have e1 := hj hok3
    refine lv_aload_n hx hb dX2_owner_6 rfl (lv_at hl 0 rfl) ?_
    refine va_get (D := G) (ci := 2) (v := .ref nm) (C := RX2) (T := TX2) (N := 6) hx hb hts hiRX2 hown hK hP 0 rfl rfl 1 (by decide) (hts (.fieldLink RX2 15 "NameAuction" "names" "[LNameAuction$Name;") (by decide +kernel)) (fun _ h9 => h9) rfl dX2_owner_7 ?_
    refine lv_iload_n hx hb dX2_owner_10 rfl (lv_at hl 1 rfl) ?_
    refine galdr (j := j) hx hb hK hP 2 2 rfl rfl e1.1 e1.2 (by decide) dX2_owner_11 ?_
    refine va_getN (D := G) (ci := 0) (v := .int (N 1)) (C := RX0) (T := TX0) (N := 11) hx hb hts hiRX0 hown hK hP 4 rfl rfl 1 (by decide) (va_Nw.use rfl (hE.1 (.fieldLinkNest RX2 74 "NameAuction$Name" "holder" "I" RX2) (by decide +kernel))) (fun _ h9 => h9) rfl dX2_owner_12 ?_
    refine vx_ret ?_
    exact W.iret (v := N 1) hx hb hr (fun t ht9 hW => ⟨⟨N 1, (), rfl, ⟨(by simp [kNam, hok3]), rfl⟩, gBi ht9 (gfin hP (rfl))⟩, hS.F ht9⟩) hS.2.2 dX2_owner_15
abbrev PX2_next (G : va_G) (T : Nat → ClassId) (na mo nm rs : Nat) (D mny : Nat → Int32) (nA rA : Nat → Nat) (j x2 x3 : Nat) (N f g : Nat → Int32) (p0 : Int32) (sz : Nat) : Array Value → State → Prop := gPc G T [.ref na, .int p0] ((cA T na mo nm rs D mny nA rA) ++ (cN T (nA j) x2 x3 N f g)) sz
abbrev QX2_next (G : va_G) (T : Nat → ClassId) (na mo nm rs : Nat) (D mny : Nat → Int32) (nA rA : Nat → Nat) (j x2 x3 : Nat) (N f g : Nat → Int32) (p0 : Int32) (sz : Nat) : Array Value → State → Outcome → State → Prop := va_Qi (fun (r : Int32) (_ : Unit) => kNam p0 = 0 ∧ r = sDay N) (gB G ((cA T na mo nm rs D mny nA rA) ++ (cN T (nA j) x2 x3 N f g))) (va_A ((cA T na mo nm rs D mny nA rA) ++ (cN T (nA j) x2 x3 N f g)) sz)
abbrev XX2_next (G : va_G) (T : Nat → ClassId) (na mo nm rs : Nat) (D mny : Nat → Int32) (nA rA : Nat → Nat) (j x2 x3 : Nat) (N f g : Nat → Int32) (p0 : Int32) (sz : Nat) : String → State → State → Prop := gX G ((cA T na mo nm rs D mny nA rA) ++ (cN T (nA j) x2 x3 N f g)) sz (fun E => pK (kNam p0) E)
set_option maxHeartbeats 4000000 in
set_option maxRecDepth 100000 in
theorem kX2_next (l : Launch) (hl0 : l.stackTraces = false) (G : va_G) (T : Nat → ClassId) (na mo nm rs : Nat) (D mny : Nat → Int32) (nA rA : Nat → Nat) (j x2 x3 : Nat) (N f g : Nat → Int32) (p0 : Int32) (sz : Nat) (hj : okI p0 16 = true → p0 = nI j ∧ j < 16) : vx_Met l yX2_next wsX2_next ({ frames := 7, cells := 1, slots := 6, locals := 102 } : Room) (PX2_next G T na mo nm rs D mny nA rA j x2 x3 N f g p0 sz) (QX2_next G T na mo nm rs D mny nA rA j x2 x3 N f g p0 sz) (XX2_next G T na mo nm rs D mny nA rA j x2 x3 N f g p0 sz) 1 6 (va_A ((cA T na mo nm rs D mny nA rA) ++ (cN T (nA j) x2 x3 N f g)) sz) := by
  refine vx_ofW (cc := cX2_next) (maxL := 2) (ret := (some .int)) (by decide) rfl ?_
  intro p e s m args below meth c s₁ B hml ht hv
  obtain ⟨rfl, hsz, hP, hK, hD0, hE⟩ := hv
  have hx := B.exec
  have hb := B.bytes
  have hr := B.returns
  have hts := atoms_spec (ws := wsX2_next) B.pre
  have hown : s.vm.findClass RX2 = some m.cls := findClass_of_methodNamed B.named
  have hlocks := B.notSynchronized
  subst hsz
  have hD := hD0.self (sz := s.heap.size)
  have hA : ∀ q : Nat, s.heap.size ≤ q → (va_A ((cA T na mo nm rs D mny nA rA) ++ (cN T (nA j) x2 x3 N f g)) s.heap.size) q := fun q h => Or.inr h
  have hS : va_S (va_A ((cA T na mo nm rs D mny nA rA) ++ (cN T (nA j) x2 x3 N f g)) s.heap.size) s.heap s.heap [] := va_S.rf
  have hiRX2 : ∀ w ∈ u_ws RX2 TX2 6, w ∈ wsX2_next := by decide +kernel
  have hl := lv_entry ([.ref na, .int p0]) (n := 2) (Nat.le_of_ble_eq_true rfl)
  rw [lg_entry_eq]
  generalize (lg_sl ([.ref na, .int p0]) ++ List.replicate (2 - (lg_sl ([.ref na, .int p0])).length) Slot.unset).toArray = ls at hl ⊢
  have hl : lv_has ls 2 [(0, .ref na), (1, .int p0)] := hl
  have hP : va_P G vwCl ((cA T na mo nm rs D mny nA rA) ++ (cN T (nA j) x2 x3 N f g)) s.heap := hP
  refine lv_iload_n hx hb dX2_next_0 rfl (lv_at hl 1 rfl) ?_
  refine lv_bipush (v := 16) hx hb dX2_next_1 (by decide) ?_
  refine gxv (vx_runS (As := [.int p0, .int 16]) (rest := []) ⟨hx, hb, hml, hown, hts⟩ (kX2_checkIndex l hl0 G T p0 16 _) (va_cwS 2 hts gX2_next_X2_checkIndex rfl rfl rfl (by decide +kernel) ⟨Nat.le_of_ble_eq_true rfl, Nat.le_of_ble_eq_true rfl⟩) ⟨gblind, gpre hE hK hP hD hS hA [] rfl rfl⟩ rfl rfl hl.1 rfl (lv_room (Nat.le_of_ble_eq_true rfl)) dX2_next_3 ⟨Nat.le_of_ble_eq_true rfl, Nat.le_of_ble_eq_true rfl⟩) hP hD hS hA [] rfl rfl (fun E9 ce9 q9 H locs he hP hD hS hce hcv hcl => ?_) (fun H locs hw hP hD hS => ?_)
  · skip
    have hP : va_P G vwCl ((cA T na mo nm rs D mny nA rA) ++ (cN T (nA j) x2 x3 N f g)) H := hP
    have hD : va_D (va_A ((cA T na mo nm rs D mny nA rA) ++ (cN T (nA j) x2 x3 N f g)) s.heap.size) ((cA T na mo nm rs D mny nA rA) ++ (cN T (nA j) x2 x3 N f g)) := hD
    exact gout (pe := fun E => pK (kNam p0) E) ht hlocks (by obtain ⟨h8, h9⟩ := he; subst h8; simp [pK, kNam, h9]) hP hS hce hcv hcl (Nat.le_of_ble_eq_true rfl) (Nat.le_of_ble_eq_true rfl)
  · skip
    have hP : va_P G vwCl ((cA T na mo nm rs D mny nA rA) ++ (cN T (nA j) x2 x3 N f g)) H := hP
    have hD : va_D (va_A ((cA T na mo nm rs D mny nA rA) ++ (cN T (nA j) x2 x3 N f g)) s.heap.size) ((cA T na mo nm rs D mny nA rA) ++ (cN T (nA j) x2 x3 N f g)) := hD
    have hok3 := hw
    have e1 := hj hok3
    refine lv_aload_n hx hb dX2_next_6 rfl (lv_at hl 0 rfl) ?_
    refine va_get (D := G) (ci := 2) (v := .ref nm) (C := RX2) (T := TX2) (N := 6) hx hb hts hiRX2 hown hK hP 0 rfl rfl 1 (by decide) (hts (.fieldLink RX2 15 "NameAuction" "names" "[LNameAuction$Name;") (by decide +kernel)) (fun _ h9 => h9) rfl dX2_next_7 ?_
    refine lv_iload_n hx hb dX2_next_10 rfl (lv_at hl 1 rfl) ?_
    refine galdr (j := j) hx hb hK hP 2 2 rfl rfl e1.1 e1.2 (by decide) dX2_next_11 ?_
    refine gci (va_runVN (As := []) (rest := []) ⟨hx, hb, hml, hown, hts⟩ (kX0_dayOfChange l G T (nA j) x2 x3 N f g _) ⟨(va_cnB 0 hts ggX2_next_X0_dayOfChange rfl rfl rfl (hE.1 (.methodLinkNest RX2 106 yX0_dayOfChange RX2) (by decide +kernel)) (hts (.initialized RX0) (by decide +kernel)) (by decide +kernel) ⟨Nat.le_of_ble_eq_true rfl, Nat.le_of_ble_eq_true rfl⟩), hts (.instanceMethod yX0_dayOfChange) (by decide +kernel), hts (.selects RX0 yX0_dayOfChange yX0_dayOfChange) (by decide +kernel)⟩ ⟨gblind, va_recv hK hP (ci := 0) (q0 := 4) rfl rfl, gpre hE hK hP hD hS hA [4, 5, 6] rfl rfl⟩ rfl rfl hl.1 rfl (lv_room (Nat.le_of_ble_eq_true rfl)) dX2_next_12 ⟨Nat.le_of_ble_eq_true rfl, Nat.le_of_ble_eq_true rfl⟩) hP hD hS hA [4, 5, 6] rfl rfl (fun r9 H locs hw hP hD hS => ?_)
    have hP : va_P G vwCl ((cA T na mo nm rs D mny nA rA) ++ (cN T (nA j) x2 x3 N f g)) H := hP
    have hD : va_D (va_A ((cA T na mo nm rs D mny nA rA) ++ (cN T (nA j) x2 x3 N f g)) s.heap.size) ((cA T na mo nm rs D mny nA rA) ++ (cN T (nA j) x2 x3 N f g)) := hD
    subst hw
    refine vx_ret ?_
    exact W.iret (v := sDay N) hx hb hr (fun t ht9 hW => ⟨⟨sDay N, (), rfl, ⟨(by simp [kNam, hok3]), rfl⟩, gBi ht9 (gfin hP (rfl))⟩, hS.F ht9⟩) hS.2.2 dX2_next_15
abbrev PX2_dispute (G : va_G) (T : Nat → ClassId) (na mo nm rs : Nat) (D mny : Nat → Int32) (nA rA : Nat → Nat) (j x2 x3 : Nat) (N f g : Nat → Int32) (p0 p1 : Int32) (sz : Nat) : Array Value → State → Prop := gPc G T [.ref na, .int p0, .int p1] ((cA T na mo nm rs D mny nA rA) ++ (cN T (nA j) x2 x3 N f g)) sz
abbrev QX2_dispute (G : va_G) (T : Nat → ClassId) (na mo nm rs : Nat) (D mny : Nat → Int32) (nA rA : Nat → Nat) (j x2 x3 : Nat) (N f g : Nat → Int32) (p0 p1 : Int32) (sz : Nat) : Array Value → State → Outcome → State → Prop := va_Qi (fun (r : Int32) (_ : Unit) => kDispute N p0 p1 = 0 ∧ r = N 0) (gB G ((cA T na mo nm rs D mny nA rA) ++ (cN T (nA j) x2 x3 (upd (upd (upd (upd N 6 (N 0)) 0 5) 7 p0) 8 (D 3)) (fun _ => 0) g))) (va_A ((cA T na mo nm rs D mny nA rA) ++ (cN T (nA j) x2 x3 N f g)) sz)
abbrev XX2_dispute (G : va_G) (T : Nat → ClassId) (na mo nm rs : Nat) (D mny : Nat → Int32) (nA rA : Nat → Nat) (j x2 x3 : Nat) (N f g : Nat → Int32) (p0 p1 : Int32) (sz : Nat) : String → State → State → Prop := gX G ((cA T na mo nm rs D mny nA rA) ++ (cN T (nA j) x2 x3 N f g)) sz (fun E => pK (kDispute N p0 p1) E)
set_option maxHeartbeats 4000000 in
set_option maxRecDepth 100000 in
theorem kX2_dispute (l : Launch) (hl0 : l.stackTraces = false) (G : va_G) (T : Nat → ClassId) (na mo nm rs : Nat) (D mny : Nat → Int32) (nA rA : Nat → Nat) (j x2 x3 : Nat) (N f g : Nat → Int32) (p0 p1 : Int32) (sz : Nat) (hj : okI p1 16 = true → p1 = nI j ∧ j < 16) : vx_Met l yX2_dispute wsX2_dispute ({ frames := 7, cells := 3, slots := 18, locals := 102 } : Room) (PX2_dispute G T na mo nm rs D mny nA rA j x2 x3 N f g p0 p1 sz) (QX2_dispute G T na mo nm rs D mny nA rA j x2 x3 N f g p0 p1 sz) (XX2_dispute G T na mo nm rs D mny nA rA j x2 x3 N f g p0 p1 sz) 3 18 (va_A ((cA T na mo nm rs D mny nA rA) ++ (cN T (nA j) x2 x3 N f g)) sz) := by
  refine vx_ofW (cc := cX2_dispute) (maxL := 5) (ret := (some .int)) (by decide) rfl ?_
  intro p e s m args below meth c s₁ B hml ht hv
  obtain ⟨rfl, hsz, hP, hK, hD0, hE⟩ := hv
  have hx := B.exec
  have hb := B.bytes
  have hr := B.returns
  have hts := atoms_spec (ws := wsX2_dispute) B.pre
  have hown : s.vm.findClass RX2 = some m.cls := findClass_of_methodNamed B.named
  have hlocks := B.notSynchronized
  subst hsz
  have hD := hD0.self (sz := s.heap.size)
  have hA : ∀ q : Nat, s.heap.size ≤ q → (va_A ((cA T na mo nm rs D mny nA rA) ++ (cN T (nA j) x2 x3 N f g)) s.heap.size) q := fun q h => Or.inr h
  have hS : va_S (va_A ((cA T na mo nm rs D mny nA rA) ++ (cN T (nA j) x2 x3 N f g)) s.heap.size) s.heap s.heap [] := va_S.rf
  have hiRX0 : ∀ w ∈ u_ws RX0 TX0 11, w ∈ wsX2_dispute := by decide +kernel
  have hiRX2 : ∀ w ∈ u_ws RX2 TX2 6, w ∈ wsX2_dispute := by decide +kernel
  have hl := lv_entry ([.ref na, .int p0, .int p1]) (n := 5) (Nat.le_of_ble_eq_true rfl)
  rw [lg_entry_eq]
  generalize (lg_sl ([.ref na, .int p0, .int p1]) ++ List.replicate (5 - (lg_sl ([.ref na, .int p0, .int p1])).length) Slot.unset).toArray = ls at hl ⊢
  have hl : lv_has ls 5 [(0, .ref na), (1, .int p0), (2, .int p1)] := hl
  have hP : va_P G vwCl ((cA T na mo nm rs D mny nA rA) ++ (cN T (nA j) x2 x3 N f g)) s.heap := hP
  refine lv_iload_n hx hb dX2_dispute_0 rfl (lv_at hl 1 rfl) ?_
  refine lv_bipush (v := 6) hx hb dX2_dispute_1 (by decide) ?_
  refine gxv (vx_runS (As := [.int p0, .int 6]) (rest := []) ⟨hx, hb, hml, hown, hts⟩ (kX2_checkIndex l hl0 G T p0 6 _) (va_cwS 2 hts gX2_dispute_X2_checkIndex rfl rfl rfl (by decide +kernel) ⟨Nat.le_of_ble_eq_true rfl, Nat.le_of_ble_eq_true rfl⟩) ⟨gblind, gpre hE hK hP hD hS hA [] rfl rfl⟩ rfl rfl hl.1 rfl (lv_room (Nat.le_of_ble_eq_true rfl)) dX2_dispute_3 ⟨Nat.le_of_ble_eq_true rfl, Nat.le_of_ble_eq_true rfl⟩) hP hD hS hA [] rfl rfl (fun E9 ce9 q9 H locs he hP hD hS hce hcv hcl => ?_) (fun H locs hw hP hD hS => ?_)
  · skip
    have hP : va_P G vwCl ((cA T na mo nm rs D mny nA rA) ++ (cN T (nA j) x2 x3 N f g)) H := hP
    have hD : va_D (va_A ((cA T na mo nm rs D mny nA rA) ++ (cN T (nA j) x2 x3 N f g)) s.heap.size) ((cA T na mo nm rs D mny nA rA) ++ (cN T (nA j) x2 x3 N f g)) := hD
    exact gout (pe := fun E => pK (kDispute N p0 p1) E) ht hlocks (by obtain ⟨h8, h9⟩ := he; subst h8; simp [pK, kDispute, h9]) hP hS hce hcv hcl (Nat.le_of_ble_eq_true rfl) (Nat.le_of_ble_eq_true rfl)
  · skip
    have hP : va_P G vwCl ((cA T na mo nm rs D mny nA rA) ++ (cN T (nA j) x2 x3 N f g)) H := hP
    have hD : va_D (va_A ((cA T na mo nm rs D mny nA rA) ++ (cN T (nA j) x2 x3 N f g)) s.heap.size) ((cA T na mo nm rs D mny nA rA) ++ (cN T (nA j) x2 x3 N f g)) := hD
    have hok3 := hw
    refine lv_iload_n hx hb dX2_dispute_6 rfl (lv_at hl 2 rfl) ?_
    refine lv_bipush (v := 16) hx hb dX2_dispute_7 (by decide) ?_
    refine gxv (vx_runS (As := [.int p1, .int 16]) (rest := []) ⟨hx, hb, hml, hown, hts⟩ (kX2_checkIndex l hl0 G T p1 16 _) (va_cwS 2 hts gX2_dispute_X2_checkIndex rfl rfl rfl (by decide +kernel) ⟨Nat.le_of_ble_eq_true rfl, Nat.le_of_ble_eq_true rfl⟩) ⟨gblind, gpre hE hK hP hD hS hA [] rfl rfl⟩ rfl rfl hl.1 rfl (lv_room (Nat.le_of_ble_eq_true rfl)) dX2_dispute_9 ⟨Nat.le_of_ble_eq_true rfl, Nat.le_of_ble_eq_true rfl⟩) hP hD hS hA [] rfl rfl (fun E9 ce9 q9 H locs he hP hD hS hce hcv hcl => ?_) (fun H locs hw hP hD hS => ?_)
    · skip
      have hP : va_P G vwCl ((cA T na mo nm rs D mny nA rA) ++ (cN T (nA j) x2 x3 N f g)) H := hP
      have hD : va_D (va_A ((cA T na mo nm rs D mny nA rA) ++ (cN T (nA j) x2 x3 N f g)) s.heap.size) ((cA T na mo nm rs D mny nA rA) ++ (cN T (nA j) x2 x3 N f g)) := hD
      exact gout (pe := fun E => pK (kDispute N p0 p1) E) ht hlocks (by obtain ⟨h8, h9⟩ := he; subst h8; simp [pK, kDispute, h9, hok3]) hP hS hce hcv hcl (Nat.le_of_ble_eq_true rfl) (Nat.le_of_ble_eq_true rfl)
    · skip
      have hP : va_P G vwCl ((cA T na mo nm rs D mny nA rA) ++ (cN T (nA j) x2 x3 N f g)) H := hP
      have hD : va_D (va_A ((cA T na mo nm rs D mny nA rA) ++ (cN T (nA j) x2 x3 N f g)) s.heap.size) ((cA T na mo nm rs D mny nA rA) ++ (cN T (nA j) x2 x3 N f g)) := hD
      have hok9 := hw
      have e1 := hj hok9
      refine lv_aload_n hx hb dX2_dispute_12 rfl (lv_at hl 0 rfl) ?_
      refine va_get (D := G) (ci := 2) (v := .ref nm) (C := RX2) (T := TX2) (N := 6) hx hb hts hiRX2 hown hK hP 0 rfl rfl 1 (by decide) (hts (.fieldLink RX2 15 "NameAuction" "names" "[LNameAuction$Name;") (by decide +kernel)) (fun _ h9 => h9) rfl dX2_dispute_13 ?_
      refine lv_iload_n hx hb dX2_dispute_16 rfl (lv_at hl 2 rfl) ?_
      refine galdr (j := j) hx hb hK hP 2 2 rfl rfl e1.1 e1.2 (by decide) dX2_dispute_17 ?_
      refine lv_astore_n (lv' := [(3, .ref (nA j)), (0, .ref na), (1, .int p0), (2, .int p1)]) hx hb dX2_dispute_18 rfl hl (by decide) rfl (fun ls hl => ?_)
      refine lv_aload_n hx hb dX2_dispute_19 rfl (lv_at hl 0 rfl) ?_
      refine va_getN (D := G) (ci := 0) (v := .int (N 0)) (C := RX0) (T := TX0) (N := 11) hx hb hts hiRX0 hown hK hP 4 rfl rfl 0 (by decide) (va_Nw.use rfl (hE.1 (.fieldLinkNest RX2 36 "NameAuction$Name" "phase" "I" RX2) (by decide +kernel))) (fun _ h9 => h9) rfl dX2_dispute_20 ?_
      refine lv_istore (lv' := [(4, .int (N 0)), (3, .ref (nA j)), (0, .ref na), (1, .int p0), (2, .int p1)]) hx hb dX2_dispute_23 hl (by decide) rfl (fun ls hl => ?_)
      refine lv_iload hx hb dX2_dispute_25 (lv_at hl 0 rfl) ?_
      refine lv_iconst (v := 1) hx hb dX2_dispute_27 (by decide) ?_
      refine lv_icmp_eq (tgt := 39) hx hb dX2_dispute_28 (by decide) (fun c28 => ?_) (fun c28 => ?_)
      · skip
        refine lv_aload_n hx hb dX2_dispute_39 rfl (lv_at hl 1 rfl) ?_
        refine va_getN (D := G) (ci := 0) (v := .int (N 1)) (C := RX0) (T := TX0) (N := 11) hx hb hts hiRX0 hown hK hP 4 rfl rfl 1 (by decide) (va_Nw.use rfl (hE.1 (.fieldLinkNest RX2 74 "NameAuction$Name" "holder" "I" RX2) (by decide +kernel))) (fun _ h9 => h9) rfl dX2_dispute_40 ?_
        refine lv_iload_n hx hb dX2_dispute_43 rfl (lv_at hl 3 rfl) ?_
        refine lv_icmp_eq (tgt := 51) hx hb dX2_dispute_44 (by decide) (fun c44 => ?_) (fun c44 => ?_)
        · skip
          refine lv_iconst (v := 0) hx hb dX2_dispute_51 (by decide) ?_
          refine gxv (vx_runS (As := [.int 0]) (rest := []) ⟨hx, hb, hml, hown, hts⟩ (kX2_checkPossible l hl0 G T 0 _) (va_cwS 1 hts gX2_dispute_X2_checkPossible rfl rfl rfl (by decide +kernel) ⟨Nat.le_of_ble_eq_true rfl, Nat.le_of_ble_eq_true rfl⟩) ⟨gblind, gpre hE hK hP hD hS hA [] rfl rfl⟩ rfl rfl hl.1 rfl (lv_room (Nat.le_of_ble_eq_true rfl)) dX2_dispute_52 ⟨Nat.le_of_ble_eq_true rfl, Nat.le_of_ble_eq_true rfl⟩) hP hD hS hA [] rfl rfl (fun E9 ce9 q9 H locs he hP hD hS hce hcv hcl => ?_) (fun H locs hw hP hD hS => ?_)
          · skip
            have hP : va_P G vwCl ((cA T na mo nm rs D mny nA rA) ++ (cN T (nA j) x2 x3 N f g)) H := hP
            have hD : va_D (va_A ((cA T na mo nm rs D mny nA rA) ++ (cN T (nA j) x2 x3 N f g)) s.heap.size) ((cA T na mo nm rs D mny nA rA) ++ (cN T (nA j) x2 x3 N f g)) := hD
            exact gout (pe := fun E => pK (kDispute N p0 p1) E) ht hlocks (by obtain ⟨h8, h9⟩ := he; subst h8; simp [pK, kDispute, h9, c28, c44, hok3, hok9]) hP hS hce hcv hcl (Nat.le_of_ble_eq_true rfl) (Nat.le_of_ble_eq_true rfl)
          · skip
            exact absurd rfl hw
        · skip
          refine lv_iconst (v := 1) hx hb dX2_dispute_47 (by decide) ?_
          refine lv_goto (tgt := 52) hx hb dX2_dispute_48 (by decide) ?_
          refine gxv (vx_runS (As := [.int 1]) (rest := []) ⟨hx, hb, hml, hown, hts⟩ (kX2_checkPossible l hl0 G T 1 _) (va_cwS 1 hts gX2_dispute_X2_checkPossible rfl rfl rfl (by decide +kernel) ⟨Nat.le_of_ble_eq_true rfl, Nat.le_of_ble_eq_true rfl⟩) ⟨gblind, gpre hE hK hP hD hS hA [] rfl rfl⟩ rfl rfl hl.1 rfl (lv_room (Nat.le_of_ble_eq_true rfl)) dX2_dispute_52 ⟨Nat.le_of_ble_eq_true rfl, Nat.le_of_ble_eq_true rfl⟩) hP hD hS hA [] rfl rfl (fun E9 ce9 q9 H locs he hP hD hS hce hcv hcl => ?_) (fun H locs hw hP hD hS => ?_)
          · skip
            have hP : va_P G vwCl ((cA T na mo nm rs D mny nA rA) ++ (cN T (nA j) x2 x3 N f g)) H := hP
            have hD : va_D (va_A ((cA T na mo nm rs D mny nA rA) ++ (cN T (nA j) x2 x3 N f g)) s.heap.size) ((cA T na mo nm rs D mny nA rA) ++ (cN T (nA j) x2 x3 N f g)) := hD
            exact absurd he.2 (by decide)
          · skip
            have hP : va_P G vwCl ((cA T na mo nm rs D mny nA rA) ++ (cN T (nA j) x2 x3 N f g)) H := hP
            have hD : va_D (va_A ((cA T na mo nm rs D mny nA rA) ++ (cN T (nA j) x2 x3 N f g)) s.heap.size) ((cA T na mo nm rs D mny nA rA) ++ (cN T (nA j) x2 x3 N f g)) := hD
            have hok52 := hw
            refine lv_aload_n hx hb dX2_dispute_55 rfl (lv_at hl 1 rfl) ?_
            refine lv_iload_n hx hb dX2_dispute_56 rfl (lv_at hl 3 rfl) ?_
            refine lv_aload_n hx hb dX2_dispute_57 rfl (lv_at hl 2 rfl) ?_
            refine va_get (D := G) (ci := 2) (v := .int (D 3)) (C := RX2) (T := TX2) (N := 6) hx hb hts hiRX2 hown hK hP 0 rfl rfl 3 (by decide) (hts (.fieldLink RX2 44 "NameAuction" "day" "I") (by decide +kernel)) (fun _ h9 => h9) rfl dX2_dispute_58 ?_
            refine gcv (va_runVN (As := [.int p0, .int (D 3)]) (rest := []) ⟨hx, hb, hml, hown, hts⟩ (kX0_freeze l G T (nA j) x2 x3 N f g p0 (D 3) _) ⟨(va_cnB 2 hts ggX2_dispute_X0_freeze rfl rfl rfl (hE.1 (.methodLinkNest RX2 109 yX0_freeze RX2) (by decide +kernel)) (hts (.initialized RX0) (by decide +kernel)) (by decide +kernel) ⟨Nat.le_of_ble_eq_true rfl, Nat.le_of_ble_eq_true rfl⟩), hts (.instanceMethod yX0_freeze) (by decide +kernel), hts (.selects RX0 yX0_freeze yX0_freeze) (by decide +kernel)⟩ ⟨gblind, va_recv hK hP (ci := 0) (q0 := 4) rfl rfl, gpre hE hK hP hD hS hA [4, 5, 6] rfl rfl⟩ rfl rfl hl.1 rfl (lv_room (Nat.le_of_ble_eq_true rfl)) dX2_dispute_61 ⟨Nat.le_of_ble_eq_true rfl, Nat.le_of_ble_eq_true rfl⟩) hP hD hS hA [4, 5, 6] rfl rfl (fun H locs hw hP hD hS => ?_)
            have hP : va_P G vwCl ((cA T na mo nm rs D mny nA rA) ++ (cN T (nA j) x2 x3 (upd (upd (upd (upd N 6 (N 0)) 0 5) 7 p0) 8 (D 3)) (fun _ => 0) g)) H := hP
            have hD : va_D (va_A ((cA T na mo nm rs D mny nA rA) ++ (cN T (nA j) x2 x3 N f g)) s.heap.size) ((cA T na mo nm rs D mny nA rA) ++ (cN T (nA j) x2 x3 (upd (upd (upd (upd N 6 (N 0)) 0 5) 7 p0) 8 (D 3)) (fun _ => 0) g)) := hD
            refine lv_iload hx hb dX2_dispute_64 (lv_at hl 0 rfl) ?_
            refine vx_ret ?_
            exact W.iret (v := N 0) hx hb hr (fun t ht9 hW => ⟨⟨N 0, (), rfl, ⟨(by simp [kDispute, c28, c44, hok3, hok9, hok52]), rfl⟩, gBi ht9 (gfin hP (rfl))⟩, hS.F ht9⟩) hS.2.2 dX2_dispute_66
      · skip
        refine lv_iload hx hb dX2_dispute_31 (lv_at hl 0 rfl) ?_
        refine gci (va_runS (As := [.int (N 0)]) (rest := []) ⟨hx, hb, hml, hown, hts⟩ (kX2_isHeld l G T (N 0) _) (va_cwS 1 hts gX2_dispute_X2_isHeld rfl rfl rfl (by decide +kernel) ⟨Nat.le_of_ble_eq_true rfl, Nat.le_of_ble_eq_true rfl⟩) ⟨gblind, gpre hE hK hP hD hS hA [] rfl rfl⟩ rfl rfl hl.1 rfl (lv_room (Nat.le_of_ble_eq_true rfl)) dX2_dispute_33 ⟨Nat.le_of_ble_eq_true rfl, Nat.le_of_ble_eq_true rfl⟩) hP hD hS hA [] rfl rfl (fun r9 H locs hw hP hD hS => ?_)
        have hP : va_P G vwCl ((cA T na mo nm rs D mny nA rA) ++ (cN T (nA j) x2 x3 N f g)) H := hP
        have hD : va_D (va_A ((cA T na mo nm rs D mny nA rA) ++ (cN T (nA j) x2 x3 N f g)) s.heap.size) ((cA T na mo nm rs D mny nA rA) ++ (cN T (nA j) x2 x3 N f g)) := hD
        subst hw
        refine lv_if_eq (tgt := 51) hx hb dX2_dispute_36 (by decide) (fun c36 => ?_) (fun c36 => ?_)
        · skip
          refine lv_iconst (v := 0) hx hb dX2_dispute_51 (by decide) ?_
          refine gxv (vx_runS (As := [.int 0]) (rest := []) ⟨hx, hb, hml, hown, hts⟩ (kX2_checkPossible l hl0 G T 0 _) (va_cwS 1 hts gX2_dispute_X2_checkPossible rfl rfl rfl (by decide +kernel) ⟨Nat.le_of_ble_eq_true rfl, Nat.le_of_ble_eq_true rfl⟩) ⟨gblind, gpre hE hK hP hD hS hA [] rfl rfl⟩ rfl rfl hl.1 rfl (lv_room (Nat.le_of_ble_eq_true rfl)) dX2_dispute_52 ⟨Nat.le_of_ble_eq_true rfl, Nat.le_of_ble_eq_true rfl⟩) hP hD hS hA [] rfl rfl (fun E9 ce9 q9 H locs he hP hD hS hce hcv hcl => ?_) (fun H locs hw hP hD hS => ?_)
          · skip
            have hP : va_P G vwCl ((cA T na mo nm rs D mny nA rA) ++ (cN T (nA j) x2 x3 N f g)) H := hP
            have hD : va_D (va_A ((cA T na mo nm rs D mny nA rA) ++ (cN T (nA j) x2 x3 N f g)) s.heap.size) ((cA T na mo nm rs D mny nA rA) ++ (cN T (nA j) x2 x3 N f g)) := hD
            exact gout (pe := fun E => pK (kDispute N p0 p1) E) ht hlocks (by obtain ⟨h8, h9⟩ := he; subst h8; simp [pK, kDispute, h9, c28, c36, hok3, hok9]) hP hS hce hcv hcl (Nat.le_of_ble_eq_true rfl) (Nat.le_of_ble_eq_true rfl)
          · skip
            exact absurd rfl hw
        · skip
          refine lv_aload_n hx hb dX2_dispute_39 rfl (lv_at hl 1 rfl) ?_
          refine va_getN (D := G) (ci := 0) (v := .int (N 1)) (C := RX0) (T := TX0) (N := 11) hx hb hts hiRX0 hown hK hP 4 rfl rfl 1 (by decide) (va_Nw.use rfl (hE.1 (.fieldLinkNest RX2 74 "NameAuction$Name" "holder" "I" RX2) (by decide +kernel))) (fun _ h9 => h9) rfl dX2_dispute_40 ?_
          refine lv_iload_n hx hb dX2_dispute_43 rfl (lv_at hl 3 rfl) ?_
          refine lv_icmp_eq (tgt := 51) hx hb dX2_dispute_44 (by decide) (fun c44 => ?_) (fun c44 => ?_)
          · skip
            refine lv_iconst (v := 0) hx hb dX2_dispute_51 (by decide) ?_
            refine gxv (vx_runS (As := [.int 0]) (rest := []) ⟨hx, hb, hml, hown, hts⟩ (kX2_checkPossible l hl0 G T 0 _) (va_cwS 1 hts gX2_dispute_X2_checkPossible rfl rfl rfl (by decide +kernel) ⟨Nat.le_of_ble_eq_true rfl, Nat.le_of_ble_eq_true rfl⟩) ⟨gblind, gpre hE hK hP hD hS hA [] rfl rfl⟩ rfl rfl hl.1 rfl (lv_room (Nat.le_of_ble_eq_true rfl)) dX2_dispute_52 ⟨Nat.le_of_ble_eq_true rfl, Nat.le_of_ble_eq_true rfl⟩) hP hD hS hA [] rfl rfl (fun E9 ce9 q9 H locs he hP hD hS hce hcv hcl => ?_) (fun H locs hw hP hD hS => ?_)
            · skip
              have hP : va_P G vwCl ((cA T na mo nm rs D mny nA rA) ++ (cN T (nA j) x2 x3 N f g)) H := hP
              have hD : va_D (va_A ((cA T na mo nm rs D mny nA rA) ++ (cN T (nA j) x2 x3 N f g)) s.heap.size) ((cA T na mo nm rs D mny nA rA) ++ (cN T (nA j) x2 x3 N f g)) := hD
              exact gout (pe := fun E => pK (kDispute N p0 p1) E) ht hlocks (by obtain ⟨h8, h9⟩ := he; subst h8; simp [pK, kDispute, h9, c28, c36, c44, hok3, hok9]) hP hS hce hcv hcl (Nat.le_of_ble_eq_true rfl) (Nat.le_of_ble_eq_true rfl)
            · skip
              exact absurd rfl hw
          · skip
            refine lv_iconst (v := 1) hx hb dX2_dispute_47 (by decide) ?_
            refine lv_goto (tgt := 52) hx hb dX2_dispute_48 (by decide) ?_
            refine gxv (vx_runS (As := [.int 1]) (rest := []) ⟨hx, hb, hml, hown, hts⟩ (kX2_checkPossible l hl0 G T 1 _) (va_cwS 1 hts gX2_dispute_X2_checkPossible rfl rfl rfl (by decide +kernel) ⟨Nat.le_of_ble_eq_true rfl, Nat.le_of_ble_eq_true rfl⟩) ⟨gblind, gpre hE hK hP hD hS hA [] rfl rfl⟩ rfl rfl hl.1 rfl (lv_room (Nat.le_of_ble_eq_true rfl)) dX2_dispute_52 ⟨Nat.le_of_ble_eq_true rfl, Nat.le_of_ble_eq_true rfl⟩) hP hD hS hA [] rfl rfl (fun E9 ce9 q9 H locs he hP hD hS hce hcv hcl => ?_) (fun H locs hw hP hD hS => ?_)
            · skip
              have hP : va_P G vwCl ((cA T na mo nm rs D mny nA rA) ++ (cN T (nA j) x2 x3 N f g)) H := hP
              have hD : va_D (va_A ((cA T na mo nm rs D mny nA rA) ++ (cN T (nA j) x2 x3 N f g)) s.heap.size) ((cA T na mo nm rs D mny nA rA) ++ (cN T (nA j) x2 x3 N f g)) := hD
              exact absurd he.2 (by decide)
            · skip
              have hP : va_P G vwCl ((cA T na mo nm rs D mny nA rA) ++ (cN T (nA j) x2 x3 N f g)) H := hP
              have hD : va_D (va_A ((cA T na mo nm rs D mny nA rA) ++ (cN T (nA j) x2 x3 N f g)) s.heap.size) ((cA T na mo nm rs D mny nA rA) ++ (cN T (nA j) x2 x3 N f g)) := hD
              have hok52 := hw
              refine lv_aload_n hx hb dX2_dispute_55 rfl (lv_at hl 1 rfl) ?_
              refine lv_iload_n hx hb dX2_dispute_56 rfl (lv_at hl 3 rfl) ?_
              refine lv_aload_n hx hb dX2_dispute_57 rfl (lv_at hl 2 rfl) ?_
              refine va_get (D := G) (ci := 2) (v := .int (D 3)) (C := RX2) (T := TX2) (N := 6) hx hb hts hiRX2 hown hK hP 0 rfl rfl 3 (by decide) (hts (.fieldLink RX2 44 "NameAuction" "day" "I") (by decide +kernel)) (fun _ h9 => h9) rfl dX2_dispute_58 ?_
              refine gcv (va_runVN (As := [.int p0, .int (D 3)]) (rest := []) ⟨hx, hb, hml, hown, hts⟩ (kX0_freeze l G T (nA j) x2 x3 N f g p0 (D 3) _) ⟨(va_cnB 2 hts ggX2_dispute_X0_freeze rfl rfl rfl (hE.1 (.methodLinkNest RX2 109 yX0_freeze RX2) (by decide +kernel)) (hts (.initialized RX0) (by decide +kernel)) (by decide +kernel) ⟨Nat.le_of_ble_eq_true rfl, Nat.le_of_ble_eq_true rfl⟩), hts (.instanceMethod yX0_freeze) (by decide +kernel), hts (.selects RX0 yX0_freeze yX0_freeze) (by decide +kernel)⟩ ⟨gblind, va_recv hK hP (ci := 0) (q0 := 4) rfl rfl, gpre hE hK hP hD hS hA [4, 5, 6] rfl rfl⟩ rfl rfl hl.1 rfl (lv_room (Nat.le_of_ble_eq_true rfl)) dX2_dispute_61 ⟨Nat.le_of_ble_eq_true rfl, Nat.le_of_ble_eq_true rfl⟩) hP hD hS hA [4, 5, 6] rfl rfl (fun H locs hw hP hD hS => ?_)
              have hP : va_P G vwCl ((cA T na mo nm rs D mny nA rA) ++ (cN T (nA j) x2 x3 (upd (upd (upd (upd N 6 (N 0)) 0 5) 7 p0) 8 (D 3)) (fun _ => 0) g)) H := hP
              have hD : va_D (va_A ((cA T na mo nm rs D mny nA rA) ++ (cN T (nA j) x2 x3 N f g)) s.heap.size) ((cA T na mo nm rs D mny nA rA) ++ (cN T (nA j) x2 x3 (upd (upd (upd (upd N 6 (N 0)) 0 5) 7 p0) 8 (D 3)) (fun _ => 0) g)) := hD
              refine lv_iload hx hb dX2_dispute_64 (lv_at hl 0 rfl) ?_
              refine vx_ret ?_
              exact W.iret (v := N 0) hx hb hr (fun t ht9 hW => ⟨⟨N 0, (), rfl, ⟨(by simp [kDispute, c28, c36, c44, hok3, hok9, hok52]), rfl⟩, gBi ht9 (gfin hP (rfl))⟩, hS.F ht9⟩) hS.2.2 dX2_dispute_66
abbrev PX2_decide (G : va_G) (T : Nat → ClassId) (na mo nm rs : Nat) (D mny : Nat → Int32) (nA rA : Nat → Nat) (j x2 x3 : Nat) (N f g : Nat → Int32) (p0 p1 : Int32) (sz : Nat) : Array Value → State → Prop := gPc G T [.ref na, .int p0, .int p1] ((cA T na mo nm rs D mny nA rA) ++ (cN T (nA j) x2 x3 N f g)) sz
abbrev QX2_decide (G : va_G) (T : Nat → ClassId) (na mo nm rs : Nat) (D mny : Nat → Int32) (nA rA : Nat → Nat) (j x2 x3 : Nat) (N f g : Nat → Int32) (p0 p1 : Int32) (sz : Nat) : Array Value → State → Outcome → State → Prop := va_Qi (fun (r : Int32) (_ : Unit) => kDecide N p0 = 0 ∧ r = sThaw N p1 (D 3) 0) (gB G ((cA T na mo nm rs D mny nA rA) ++ (cN T (nA j) x2 x3 (sThaw N p1 (D 3)) (sThawF N f) g))) (va_A ((cA T na mo nm rs D mny nA rA) ++ (cN T (nA j) x2 x3 N f g)) sz)
abbrev XX2_decide (G : va_G) (T : Nat → ClassId) (na mo nm rs : Nat) (D mny : Nat → Int32) (nA rA : Nat → Nat) (j x2 x3 : Nat) (N f g : Nat → Int32) (p0 p1 : Int32) (sz : Nat) : String → State → State → Prop := gX G ((cA T na mo nm rs D mny nA rA) ++ (cN T (nA j) x2 x3 N f g)) sz (fun E => pK (kDecide N p0) E)
set_option maxHeartbeats 4000000 in
set_option maxRecDepth 100000 in
theorem kX2_decide (l : Launch) (hl0 : l.stackTraces = false) (G : va_G) (T : Nat → ClassId) (na mo nm rs : Nat) (D mny : Nat → Int32) (nA rA : Nat → Nat) (j x2 x3 : Nat) (N f g : Nat → Int32) (p0 p1 : Int32) (sz : Nat) (hj : okI p0 16 = true → p0 = nI j ∧ j < 16) : vx_Met l yX2_decide wsX2_decide ({ frames := 7, cells := 2, slots := 12, locals := 102 } : Room) (PX2_decide G T na mo nm rs D mny nA rA j x2 x3 N f g p0 p1 sz) (QX2_decide G T na mo nm rs D mny nA rA j x2 x3 N f g p0 p1 sz) (XX2_decide G T na mo nm rs D mny nA rA j x2 x3 N f g p0 p1 sz) 2 12 (va_A ((cA T na mo nm rs D mny nA rA) ++ (cN T (nA j) x2 x3 N f g)) sz) := by
  refine vx_ofW (cc := cX2_decide) (maxL := 4) (ret := (some .int)) (by decide) rfl ?_
  intro p e s m args below meth c s₁ B hml ht hv
  obtain ⟨rfl, hsz, hP, hK, hD0, hE⟩ := hv
  have hx := B.exec
  have hb := B.bytes
  have hr := B.returns
  have hts := atoms_spec (ws := wsX2_decide) B.pre
  have hown : s.vm.findClass RX2 = some m.cls := findClass_of_methodNamed B.named
  have hlocks := B.notSynchronized
  subst hsz
  have hD := hD0.self (sz := s.heap.size)
  have hA : ∀ q : Nat, s.heap.size ≤ q → (va_A ((cA T na mo nm rs D mny nA rA) ++ (cN T (nA j) x2 x3 N f g)) s.heap.size) q := fun q h => Or.inr h
  have hS : va_S (va_A ((cA T na mo nm rs D mny nA rA) ++ (cN T (nA j) x2 x3 N f g)) s.heap.size) s.heap s.heap [] := va_S.rf
  have hiRX0 : ∀ w ∈ u_ws RX0 TX0 11, w ∈ wsX2_decide := by decide +kernel
  have hiRX2 : ∀ w ∈ u_ws RX2 TX2 6, w ∈ wsX2_decide := by decide +kernel
  have hl := lv_entry ([.ref na, .int p0, .int p1]) (n := 4) (Nat.le_of_ble_eq_true rfl)
  rw [lg_entry_eq]
  generalize (lg_sl ([.ref na, .int p0, .int p1]) ++ List.replicate (4 - (lg_sl ([.ref na, .int p0, .int p1])).length) Slot.unset).toArray = ls at hl ⊢
  have hl : lv_has ls 4 [(0, .ref na), (1, .int p0), (2, .int p1)] := hl
  have hP : va_P G vwCl ((cA T na mo nm rs D mny nA rA) ++ (cN T (nA j) x2 x3 N f g)) s.heap := hP
  refine lv_iload_n hx hb dX2_decide_0 rfl (lv_at hl 1 rfl) ?_
  refine lv_bipush (v := 16) hx hb dX2_decide_1 (by decide) ?_
  refine gxv (vx_runS (As := [.int p0, .int 16]) (rest := []) ⟨hx, hb, hml, hown, hts⟩ (kX2_checkIndex l hl0 G T p0 16 _) (va_cwS 2 hts gX2_decide_X2_checkIndex rfl rfl rfl (by decide +kernel) ⟨Nat.le_of_ble_eq_true rfl, Nat.le_of_ble_eq_true rfl⟩) ⟨gblind, gpre hE hK hP hD hS hA [] rfl rfl⟩ rfl rfl hl.1 rfl (lv_room (Nat.le_of_ble_eq_true rfl)) dX2_decide_3 ⟨Nat.le_of_ble_eq_true rfl, Nat.le_of_ble_eq_true rfl⟩) hP hD hS hA [] rfl rfl (fun E9 ce9 q9 H locs he hP hD hS hce hcv hcl => ?_) (fun H locs hw hP hD hS => ?_)
  · skip
    have hP : va_P G vwCl ((cA T na mo nm rs D mny nA rA) ++ (cN T (nA j) x2 x3 N f g)) H := hP
    have hD : va_D (va_A ((cA T na mo nm rs D mny nA rA) ++ (cN T (nA j) x2 x3 N f g)) s.heap.size) ((cA T na mo nm rs D mny nA rA) ++ (cN T (nA j) x2 x3 N f g)) := hD
    exact gout (pe := fun E => pK (kDecide N p0) E) ht hlocks (by obtain ⟨h8, h9⟩ := he; subst h8; simp [pK, kDecide, h9]) hP hS hce hcv hcl (Nat.le_of_ble_eq_true rfl) (Nat.le_of_ble_eq_true rfl)
  · skip
    have hP : va_P G vwCl ((cA T na mo nm rs D mny nA rA) ++ (cN T (nA j) x2 x3 N f g)) H := hP
    have hD : va_D (va_A ((cA T na mo nm rs D mny nA rA) ++ (cN T (nA j) x2 x3 N f g)) s.heap.size) ((cA T na mo nm rs D mny nA rA) ++ (cN T (nA j) x2 x3 N f g)) := hD
    have hok3 := hw
    have e1 := hj hok3
    refine lv_aload_n hx hb dX2_decide_6 rfl (lv_at hl 0 rfl) ?_
    refine va_get (D := G) (ci := 2) (v := .ref nm) (C := RX2) (T := TX2) (N := 6) hx hb hts hiRX2 hown hK hP 0 rfl rfl 1 (by decide) (hts (.fieldLink RX2 15 "NameAuction" "names" "[LNameAuction$Name;") (by decide +kernel)) (fun _ h9 => h9) rfl dX2_decide_7 ?_
    refine lv_iload_n hx hb dX2_decide_10 rfl (lv_at hl 1 rfl) ?_
    refine galdr (j := j) hx hb hK hP 2 2 rfl rfl e1.1 e1.2 (by decide) dX2_decide_11 ?_
    refine lv_astore_n (lv' := [(3, .ref (nA j)), (0, .ref na), (1, .int p0), (2, .int p1)]) hx hb dX2_decide_12 rfl hl (by decide) rfl (fun ls hl => ?_)
    refine lv_aload_n hx hb dX2_decide_13 rfl (lv_at hl 0 rfl) ?_
    refine va_getN (D := G) (ci := 0) (v := .int (N 0)) (C := RX0) (T := TX0) (N := 11) hx hb hts hiRX0 hown hK hP 4 rfl rfl 0 (by decide) (va_Nw.use rfl (hE.1 (.fieldLinkNest RX2 36 "NameAuction$Name" "phase" "I" RX2) (by decide +kernel))) (fun _ h9 => h9) rfl dX2_decide_14 ?_
    refine lv_iconst (v := 5) hx hb dX2_decide_17 (by decide) ?_
    refine lv_icmp_ne (tgt := 25) hx hb dX2_decide_18 (by decide) (fun c18 => ?_) (fun c18 => ?_)
    · skip
      refine lv_iconst (v := 0) hx hb dX2_decide_25 (by decide) ?_
      refine gxv (vx_runS (As := [.int 0]) (rest := []) ⟨hx, hb, hml, hown, hts⟩ (kX2_checkPossible l hl0 G T 0 _) (va_cwS 1 hts gX2_decide_X2_checkPossible rfl rfl rfl (by decide +kernel) ⟨Nat.le_of_ble_eq_true rfl, Nat.le_of_ble_eq_true rfl⟩) ⟨gblind, gpre hE hK hP hD hS hA [] rfl rfl⟩ rfl rfl hl.1 rfl (lv_room (Nat.le_of_ble_eq_true rfl)) dX2_decide_26 ⟨Nat.le_of_ble_eq_true rfl, Nat.le_of_ble_eq_true rfl⟩) hP hD hS hA [] rfl rfl (fun E9 ce9 q9 H locs he hP hD hS hce hcv hcl => ?_) (fun H locs hw hP hD hS => ?_)
      · skip
        have hP : va_P G vwCl ((cA T na mo nm rs D mny nA rA) ++ (cN T (nA j) x2 x3 N f g)) H := hP
        have hD : va_D (va_A ((cA T na mo nm rs D mny nA rA) ++ (cN T (nA j) x2 x3 N f g)) s.heap.size) ((cA T na mo nm rs D mny nA rA) ++ (cN T (nA j) x2 x3 N f g)) := hD
        exact gout (pe := fun E => pK (kDecide N p0) E) ht hlocks (by obtain ⟨h8, h9⟩ := he; subst h8; simp [pK, kDecide, h9, c18, hok3]) hP hS hce hcv hcl (Nat.le_of_ble_eq_true rfl) (Nat.le_of_ble_eq_true rfl)
      · skip
        exact absurd rfl hw
    · skip
      refine lv_iconst (v := 1) hx hb dX2_decide_21 (by decide) ?_
      refine lv_goto (tgt := 26) hx hb dX2_decide_22 (by decide) ?_
      refine gxv (vx_runS (As := [.int 1]) (rest := []) ⟨hx, hb, hml, hown, hts⟩ (kX2_checkPossible l hl0 G T 1 _) (va_cwS 1 hts gX2_decide_X2_checkPossible rfl rfl rfl (by decide +kernel) ⟨Nat.le_of_ble_eq_true rfl, Nat.le_of_ble_eq_true rfl⟩) ⟨gblind, gpre hE hK hP hD hS hA [] rfl rfl⟩ rfl rfl hl.1 rfl (lv_room (Nat.le_of_ble_eq_true rfl)) dX2_decide_26 ⟨Nat.le_of_ble_eq_true rfl, Nat.le_of_ble_eq_true rfl⟩) hP hD hS hA [] rfl rfl (fun E9 ce9 q9 H locs he hP hD hS hce hcv hcl => ?_) (fun H locs hw hP hD hS => ?_)
      · skip
        have hP : va_P G vwCl ((cA T na mo nm rs D mny nA rA) ++ (cN T (nA j) x2 x3 N f g)) H := hP
        have hD : va_D (va_A ((cA T na mo nm rs D mny nA rA) ++ (cN T (nA j) x2 x3 N f g)) s.heap.size) ((cA T na mo nm rs D mny nA rA) ++ (cN T (nA j) x2 x3 N f g)) := hD
        exact absurd he.2 (by decide)
      · skip
        have hP : va_P G vwCl ((cA T na mo nm rs D mny nA rA) ++ (cN T (nA j) x2 x3 N f g)) H := hP
        have hD : va_D (va_A ((cA T na mo nm rs D mny nA rA) ++ (cN T (nA j) x2 x3 N f g)) s.heap.size) ((cA T na mo nm rs D mny nA rA) ++ (cN T (nA j) x2 x3 N f g)) := hD
        have hok26 := hw
        refine lv_aload_n hx hb dX2_decide_29 rfl (lv_at hl 0 rfl) ?_
        refine lv_iload_n hx hb dX2_decide_30 rfl (lv_at hl 3 rfl) ?_
        refine lv_aload_n hx hb dX2_decide_31 rfl (lv_at hl 1 rfl) ?_
        refine va_get (D := G) (ci := 2) (v := .int (D 3)) (C := RX2) (T := TX2) (N := 6) hx hb hts hiRX2 hown hK hP 0 rfl rfl 3 (by decide) (hts (.fieldLink RX2 44 "NameAuction" "day" "I") (by decide +kernel)) (fun _ h9 => h9) rfl dX2_decide_32 ?_
        refine gcv (va_runVN (As := [.int p1, .int (D 3)]) (rest := []) ⟨hx, hb, hml, hown, hts⟩ (kX0_thaw l G T (nA j) x2 x3 N f g p1 (D 3) _) ⟨(va_cnB 2 hts ggX2_decide_X0_thaw rfl rfl rfl (hE.1 (.methodLinkNest RX2 112 yX0_thaw RX2) (by decide +kernel)) (hts (.initialized RX0) (by decide +kernel)) (by decide +kernel) ⟨Nat.le_of_ble_eq_true rfl, Nat.le_of_ble_eq_true rfl⟩), hts (.instanceMethod yX0_thaw) (by decide +kernel), hts (.selects RX0 yX0_thaw yX0_thaw) (by decide +kernel)⟩ ⟨gblind, va_recv hK hP (ci := 0) (q0 := 4) rfl rfl, gpre hE hK hP hD hS hA [4, 5, 6] rfl rfl⟩ rfl rfl hl.1 rfl (lv_room (Nat.le_of_ble_eq_true rfl)) dX2_decide_35 ⟨Nat.le_of_ble_eq_true rfl, Nat.le_of_ble_eq_true rfl⟩) hP hD hS hA [4, 5, 6] rfl rfl (fun H locs hw hP hD hS => ?_)
        have hP : va_P G vwCl ((cA T na mo nm rs D mny nA rA) ++ (cN T (nA j) x2 x3 (sThaw N p1 (D 3)) (sThawF N f) g)) H := hP
        have hD : va_D (va_A ((cA T na mo nm rs D mny nA rA) ++ (cN T (nA j) x2 x3 N f g)) s.heap.size) ((cA T na mo nm rs D mny nA rA) ++ (cN T (nA j) x2 x3 (sThaw N p1 (D 3)) (sThawF N f) g)) := hD
        refine lv_aload_n hx hb dX2_decide_38 rfl (lv_at hl 0 rfl) ?_
        refine va_getN (D := G) (ci := 0) (v := .int ((sThaw N p1 (D 3)) 0)) (C := RX0) (T := TX0) (N := 11) hx hb hts hiRX0 hown hK hP 4 rfl rfl 0 (by decide) (va_Nw.use rfl (hE.1 (.fieldLinkNest RX2 36 "NameAuction$Name" "phase" "I" RX2) (by decide +kernel))) (fun _ h9 => h9) rfl dX2_decide_39 ?_
        refine vx_ret ?_
        exact W.iret (v := (sThaw N p1 (D 3)) 0) hx hb hr (fun t ht9 hW => ⟨⟨(sThaw N p1 (D 3)) 0, (), rfl, ⟨(by simp [kDecide, c18, hok3, hok26]), rfl⟩, gBi ht9 (gfin hP (rfl))⟩, hS.F ht9⟩) hS.2.2 dX2_decide_42
abbrev PX2_today (G : va_G) (T : Nat → ClassId) (na mo nm rs : Nat) (D mny : Nat → Int32) (nA rA : Nat → Nat) (sz : Nat) : Array Value → State → Prop := gPc G T [.ref na] (cA T na mo nm rs D mny nA rA) sz
abbrev QX2_today (G : va_G) (T : Nat → ClassId) (na mo nm rs : Nat) (D mny : Nat → Int32) (nA rA : Nat → Nat) (sz : Nat) : Array Value → State → Outcome → State → Prop := va_Qi (fun (r : Int32) (_ : Unit) => r = D 3) (gB G (cA T na mo nm rs D mny nA rA)) (va_A (cA T na mo nm rs D mny nA rA) sz)
set_option maxHeartbeats 4000000 in
set_option maxRecDepth 100000 in
theorem kX2_today (l : Launch) (G : va_G) (T : Nat → ClassId) (na mo nm rs : Nat) (D mny : Nat → Int32) (nA rA : Nat → Nat) (sz : Nat)  : Met l yX2_today wsX2_today ({ frames := 0, cells := 0, slots := 0, locals := 0 } : Room) (PX2_today G T na mo nm rs D mny nA rA sz) (QX2_today G T na mo nm rs D mny nA rA sz) 0 0 (va_A (cA T na mo nm rs D mny nA rA) sz) := by
  refine Met.ofW (cc := cX2_today) (maxL := 1) (ret := (some .int)) (by decide) rfl ?_
  intro p e s m args below meth c s₁ B hml hv
  obtain ⟨rfl, hsz, hP, hK, hD0, hE⟩ := hv
  have hx := B.exec
  have hb := B.bytes
  have hr := B.returns
  have hts := atoms_spec (ws := wsX2_today) B.pre
  have hown : s.vm.findClass RX2 = some m.cls := findClass_of_methodNamed B.named
  have hlocks := B.notSynchronized
  subst hsz
  have hD := hD0.self (sz := s.heap.size)
  have hA : ∀ q : Nat, s.heap.size ≤ q → (va_A (cA T na mo nm rs D mny nA rA) s.heap.size) q := fun q h => Or.inr h
  have hS : va_S (va_A (cA T na mo nm rs D mny nA rA) s.heap.size) s.heap s.heap [] := va_S.rf
  have hiRX2 : ∀ w ∈ u_ws RX2 TX2 6, w ∈ wsX2_today := by decide +kernel
  have hl := lv_entry ([.ref na]) (n := 1) (Nat.le_of_ble_eq_true rfl)
  rw [lg_entry_eq]
  generalize (lg_sl ([.ref na]) ++ List.replicate (1 - (lg_sl ([.ref na])).length) Slot.unset).toArray = ls at hl ⊢
  have hl : lv_has ls 1 [(0, .ref na)] := hl
  have hP : va_P G vwCl (cA T na mo nm rs D mny nA rA) s.heap := hP
  refine lv_aload_n hx hb dX2_today_0 rfl (lv_at hl 0 rfl) ?_
  refine va_get (D := G) (ci := 2) (v := .int (D 3)) (C := RX2) (T := TX2) (N := 6) hx hb hts hiRX2 hown hK hP 0 rfl rfl 3 (by decide) (hts (.fieldLink RX2 44 "NameAuction" "day" "I") (by decide +kernel)) (fun _ h9 => h9) rfl dX2_today_1 ?_
  exact W.iret (v := D 3) hx hb hr (fun t ht9 hW => ⟨⟨D 3, (), rfl, rfl, gBi ht9 (gfin hP (rfl))⟩, hS.F ht9⟩) hS.2.2 dX2_today_4
abbrev PX2_takings (G : va_G) (T : Nat → ClassId) (na mo nm rs : Nat) (D mny : Nat → Int32) (nA rA : Nat → Nat) (sz : Nat) : Array Value → State → Prop := gPc G T [.ref na] (cA T na mo nm rs D mny nA rA) sz
abbrev QX2_takings (G : va_G) (T : Nat → ClassId) (na mo nm rs : Nat) (D mny : Nat → Int32) (nA rA : Nat → Nat) (sz : Nat) : Array Value → State → Outcome → State → Prop := va_Qi (fun (r : Int32) (_ : Unit) => r = D 4) (gB G (cA T na mo nm rs D mny nA rA)) (va_A (cA T na mo nm rs D mny nA rA) sz)
set_option maxHeartbeats 4000000 in
set_option maxRecDepth 100000 in
theorem kX2_takings (l : Launch) (G : va_G) (T : Nat → ClassId) (na mo nm rs : Nat) (D mny : Nat → Int32) (nA rA : Nat → Nat) (sz : Nat)  : Met l yX2_takings wsX2_takings ({ frames := 0, cells := 0, slots := 0, locals := 0 } : Room) (PX2_takings G T na mo nm rs D mny nA rA sz) (QX2_takings G T na mo nm rs D mny nA rA sz) 0 0 (va_A (cA T na mo nm rs D mny nA rA) sz) := by
  refine Met.ofW (cc := cX2_takings) (maxL := 1) (ret := (some .int)) (by decide) rfl ?_
  intro p e s m args below meth c s₁ B hml hv
  obtain ⟨rfl, hsz, hP, hK, hD0, hE⟩ := hv
  have hx := B.exec
  have hb := B.bytes
  have hr := B.returns
  have hts := atoms_spec (ws := wsX2_takings) B.pre
  have hown : s.vm.findClass RX2 = some m.cls := findClass_of_methodNamed B.named
  have hlocks := B.notSynchronized
  subst hsz
  have hD := hD0.self (sz := s.heap.size)
  have hA : ∀ q : Nat, s.heap.size ≤ q → (va_A (cA T na mo nm rs D mny nA rA) s.heap.size) q := fun q h => Or.inr h
  have hS : va_S (va_A (cA T na mo nm rs D mny nA rA) s.heap.size) s.heap s.heap [] := va_S.rf
  have hiRX2 : ∀ w ∈ u_ws RX2 TX2 6, w ∈ wsX2_takings := by decide +kernel
  have hl := lv_entry ([.ref na]) (n := 1) (Nat.le_of_ble_eq_true rfl)
  rw [lg_entry_eq]
  generalize (lg_sl ([.ref na]) ++ List.replicate (1 - (lg_sl ([.ref na])).length) Slot.unset).toArray = ls at hl ⊢
  have hl : lv_has ls 1 [(0, .ref na)] := hl
  have hP : va_P G vwCl (cA T na mo nm rs D mny nA rA) s.heap := hP
  refine lv_aload_n hx hb dX2_takings_0 rfl (lv_at hl 0 rfl) ?_
  refine va_get (D := G) (ci := 2) (v := .int (D 4)) (C := RX2) (T := TX2) (N := 6) hx hb hts hiRX2 hown hK hP 0 rfl rfl 4 (by decide) (hts (.fieldLink RX2 119 "NameAuction" "paid" "I") (by decide +kernel)) (fun _ h9 => h9) rfl dX2_takings_1 ?_
  exact W.iret (v := D 4) hx hb hr (fun t ht9 hW => ⟨⟨D 4, (), rfl, rfl, gBi ht9 (gfin hP (rfl))⟩, hS.F ht9⟩) hS.2.2 dX2_takings_4
abbrev PX2_lookUp (G : va_G) (T : Nat → ClassId) (na mo nm rs : Nat) (D mny : Nat → Int32) (nA rA : Nat → Nat) (j x2 x3 : Nat) (N f g : Nat → Int32) (i y2 y3 y4 y5 : Nat) (rk rf rg rh : Nat → Int32) (p0 p1 : Int32) (sz : Nat) : Array Value → State → Prop := gPc G T [.ref na, .int p0, .int p1] ((cA T na mo nm rs D mny nA rA) ++ (cN T (nA j) x2 x3 N f g) ++ (cR T (rA i) y2 y3 y4 y5 rk rf rg rh)) sz
abbrev QX2_lookUp (G : va_G) (T : Nat → ClassId) (na mo nm rs : Nat) (D mny : Nat → Int32) (nA rA : Nat → Nat) (j x2 x3 : Nat) (N f g : Nat → Int32) (i y2 y3 y4 y5 : Nat) (rk rf rg rh : Nat → Int32) (p0 p1 : Int32) (sz : Nat) : Array Value → State → Outcome → State → Prop := va_Qi (fun (r : Int32) (_ : Unit) => kRN p0 p1 = 0 ∧ r = sLook (sFresh rk rg rh j (D 3)) rf j (sAns N) j) (gB G ((cA T na mo nm rs D mny nA rA) ++ (cN T (nA j) x2 x3 N f g) ++ (cR T (rA i) y2 y3 y4 y5 (sLook (sFresh rk rg rh j (D 3)) rk j 1) (sLook (sFresh rk rg rh j (D 3)) rf j (sAns N)) (sLook (sFresh rk rg rh j (D 3)) rg j (sLife N)) (sLook (sFresh rk rg rh j (D 3)) rh j (D 3))))) (va_A ((cA T na mo nm rs D mny nA rA) ++ (cN T (nA j) x2 x3 N f g) ++ (cR T (rA i) y2 y3 y4 y5 rk rf rg rh)) sz)
abbrev XX2_lookUp (G : va_G) (T : Nat → ClassId) (na mo nm rs : Nat) (D mny : Nat → Int32) (nA rA : Nat → Nat) (j x2 x3 : Nat) (N f g : Nat → Int32) (i y2 y3 y4 y5 : Nat) (rk rf rg rh : Nat → Int32) (p0 p1 : Int32) (sz : Nat) : String → State → State → Prop := gX G ((cA T na mo nm rs D mny nA rA) ++ (cN T (nA j) x2 x3 N f g) ++ (cR T (rA i) y2 y3 y4 y5 rk rf rg rh)) sz (fun E => pK (kRN p0 p1) E)
set_option maxHeartbeats 4000000 in
set_option maxRecDepth 100000 in
theorem kX2_lookUp (l : Launch) (hl0 : l.stackTraces = false) (G : va_G) (T : Nat → ClassId) (na mo nm rs : Nat) (D mny : Nat → Int32) (nA rA : Nat → Nat) (j x2 x3 : Nat) (N f g : Nat → Int32) (i y2 y3 y4 y5 : Nat) (rk rf rg rh : Nat → Int32) (p0 p1 : Int32) (sz : Nat) (hr9 : okI p0 3 = true → p0 = nI i ∧ i < 3) (hj : okI p1 16 = true → p1 = nI j ∧ j < 16) : vx_Met l yX2_lookUp wsX2_lookUp ({ frames := 7, cells := 2, slots := 12, locals := 102 } : Room) (PX2_lookUp G T na mo nm rs D mny nA rA j x2 x3 N f g i y2 y3 y4 y5 rk rf rg rh p0 p1 sz) (QX2_lookUp G T na mo nm rs D mny nA rA j x2 x3 N f g i y2 y3 y4 y5 rk rf rg rh p0 p1 sz) (XX2_lookUp G T na mo nm rs D mny nA rA j x2 x3 N f g i y2 y3 y4 y5 rk rf rg rh p0 p1 sz) 2 12 (va_A ((cA T na mo nm rs D mny nA rA) ++ (cN T (nA j) x2 x3 N f g) ++ (cR T (rA i) y2 y3 y4 y5 rk rf rg rh)) sz) := by
  refine vx_ofW (cc := cX2_lookUp) (maxL := 4) (ret := (some .int)) (by decide) rfl ?_
  intro p e s m args below meth c s₁ B hml ht hv
  obtain ⟨rfl, hsz, hP, hK, hD0, hE⟩ := hv
  have hx := B.exec
  have hb := B.bytes
  have hr := B.returns
  have hts := atoms_spec (ws := wsX2_lookUp) B.pre
  have hown : s.vm.findClass RX2 = some m.cls := findClass_of_methodNamed B.named
  have hlocks := B.notSynchronized
  subst hsz
  have hD := hD0.self (sz := s.heap.size)
  have hA : ∀ q : Nat, s.heap.size ≤ q → (va_A ((cA T na mo nm rs D mny nA rA) ++ (cN T (nA j) x2 x3 N f g) ++ (cR T (rA i) y2 y3 y4 y5 rk rf rg rh)) s.heap.size) q := fun q h => Or.inr h
  have hS : va_S (va_A ((cA T na mo nm rs D mny nA rA) ++ (cN T (nA j) x2 x3 N f g) ++ (cR T (rA i) y2 y3 y4 y5 rk rf rg rh)) s.heap.size) s.heap s.heap [] := va_S.rf
  have hiRX1 : ∀ w ∈ u_ws RX1 TX1 4, w ∈ wsX2_lookUp := by decide +kernel
  have hiRX2 : ∀ w ∈ u_ws RX2 TX2 6, w ∈ wsX2_lookUp := by decide +kernel
  have hl := lv_entry ([.ref na, .int p0, .int p1]) (n := 4) (Nat.le_of_ble_eq_true rfl)
  rw [lg_entry_eq]
  generalize (lg_sl ([.ref na, .int p0, .int p1]) ++ List.replicate (4 - (lg_sl ([.ref na, .int p0, .int p1])).length) Slot.unset).toArray = ls at hl ⊢
  have hl : lv_has ls 4 [(0, .ref na), (1, .int p0), (2, .int p1)] := hl
  have hP : va_P G vwCl ((cA T na mo nm rs D mny nA rA) ++ (cN T (nA j) x2 x3 N f g) ++ (cR T (rA i) y2 y3 y4 y5 rk rf rg rh)) s.heap := hP
  refine lv_iload_n hx hb dX2_lookUp_0 rfl (lv_at hl 1 rfl) ?_
  refine lv_iconst (v := 3) hx hb dX2_lookUp_1 (by decide) ?_
  refine gxv (vx_runS (As := [.int p0, .int 3]) (rest := []) ⟨hx, hb, hml, hown, hts⟩ (kX2_checkIndex l hl0 G T p0 3 _) (va_cwS 2 hts gX2_lookUp_X2_checkIndex rfl rfl rfl (by decide +kernel) ⟨Nat.le_of_ble_eq_true rfl, Nat.le_of_ble_eq_true rfl⟩) ⟨gblind, gpre hE hK hP hD hS hA [] rfl rfl⟩ rfl rfl hl.1 rfl (lv_room (Nat.le_of_ble_eq_true rfl)) dX2_lookUp_2 ⟨Nat.le_of_ble_eq_true rfl, Nat.le_of_ble_eq_true rfl⟩) hP hD hS hA [] rfl rfl (fun E9 ce9 q9 H locs he hP hD hS hce hcv hcl => ?_) (fun H locs hw hP hD hS => ?_)
  · skip
    have hP : va_P G vwCl ((cA T na mo nm rs D mny nA rA) ++ (cN T (nA j) x2 x3 N f g) ++ (cR T (rA i) y2 y3 y4 y5 rk rf rg rh)) H := hP
    have hD : va_D (va_A ((cA T na mo nm rs D mny nA rA) ++ (cN T (nA j) x2 x3 N f g) ++ (cR T (rA i) y2 y3 y4 y5 rk rf rg rh)) s.heap.size) ((cA T na mo nm rs D mny nA rA) ++ (cN T (nA j) x2 x3 N f g) ++ (cR T (rA i) y2 y3 y4 y5 rk rf rg rh)) := hD
    exact gout (pe := fun E => pK (kRN p0 p1) E) ht hlocks (by obtain ⟨h8, h9⟩ := he; subst h8; simp [pK, kRN, h9]) hP hS hce hcv hcl (Nat.le_of_ble_eq_true rfl) (Nat.le_of_ble_eq_true rfl)
  · skip
    have hP : va_P G vwCl ((cA T na mo nm rs D mny nA rA) ++ (cN T (nA j) x2 x3 N f g) ++ (cR T (rA i) y2 y3 y4 y5 rk rf rg rh)) H := hP
    have hD : va_D (va_A ((cA T na mo nm rs D mny nA rA) ++ (cN T (nA j) x2 x3 N f g) ++ (cR T (rA i) y2 y3 y4 y5 rk rf rg rh)) s.heap.size) ((cA T na mo nm rs D mny nA rA) ++ (cN T (nA j) x2 x3 N f g) ++ (cR T (rA i) y2 y3 y4 y5 rk rf rg rh)) := hD
    have hok2 := hw
    have e0 := hr9 hok2
    refine lv_iload_n hx hb dX2_lookUp_5 rfl (lv_at hl 2 rfl) ?_
    refine lv_bipush (v := 16) hx hb dX2_lookUp_6 (by decide) ?_
    refine gxv (vx_runS (As := [.int p1, .int 16]) (rest := []) ⟨hx, hb, hml, hown, hts⟩ (kX2_checkIndex l hl0 G T p1 16 _) (va_cwS 2 hts gX2_lookUp_X2_checkIndex rfl rfl rfl (by decide +kernel) ⟨Nat.le_of_ble_eq_true rfl, Nat.le_of_ble_eq_true rfl⟩) ⟨gblind, gpre hE hK hP hD hS hA [] rfl rfl⟩ rfl rfl hl.1 rfl (lv_room (Nat.le_of_ble_eq_true rfl)) dX2_lookUp_8 ⟨Nat.le_of_ble_eq_true rfl, Nat.le_of_ble_eq_true rfl⟩) hP hD hS hA [] rfl rfl (fun E9 ce9 q9 H locs he hP hD hS hce hcv hcl => ?_) (fun H locs hw hP hD hS => ?_)
    · skip
      have hP : va_P G vwCl ((cA T na mo nm rs D mny nA rA) ++ (cN T (nA j) x2 x3 N f g) ++ (cR T (rA i) y2 y3 y4 y5 rk rf rg rh)) H := hP
      have hD : va_D (va_A ((cA T na mo nm rs D mny nA rA) ++ (cN T (nA j) x2 x3 N f g) ++ (cR T (rA i) y2 y3 y4 y5 rk rf rg rh)) s.heap.size) ((cA T na mo nm rs D mny nA rA) ++ (cN T (nA j) x2 x3 N f g) ++ (cR T (rA i) y2 y3 y4 y5 rk rf rg rh)) := hD
      exact gout (pe := fun E => pK (kRN p0 p1) E) ht hlocks (by obtain ⟨h8, h9⟩ := he; subst h8; simp [pK, kRN, h9, hok2]) hP hS hce hcv hcl (Nat.le_of_ble_eq_true rfl) (Nat.le_of_ble_eq_true rfl)
    · skip
      have hP : va_P G vwCl ((cA T na mo nm rs D mny nA rA) ++ (cN T (nA j) x2 x3 N f g) ++ (cR T (rA i) y2 y3 y4 y5 rk rf rg rh)) H := hP
      have hD : va_D (va_A ((cA T na mo nm rs D mny nA rA) ++ (cN T (nA j) x2 x3 N f g) ++ (cR T (rA i) y2 y3 y4 y5 rk rf rg rh)) s.heap.size) ((cA T na mo nm rs D mny nA rA) ++ (cN T (nA j) x2 x3 N f g) ++ (cR T (rA i) y2 y3 y4 y5 rk rf rg rh)) := hD
      have hok8 := hw
      have e1 := hj hok8
      refine lv_aload_n hx hb dX2_lookUp_11 rfl (lv_at hl 0 rfl) ?_
      refine va_get (D := G) (ci := 2) (v := .ref rs) (C := RX2) (T := TX2) (N := 6) hx hb hts hiRX2 hown hK hP 0 rfl rfl 2 (by decide) (hts (.fieldLink RX2 21 "NameAuction" "resolvers" "[LNameAuction$Resolver;") (by decide +kernel)) (fun _ h9 => h9) rfl dX2_lookUp_12 ?_
      refine lv_iload_n hx hb dX2_lookUp_15 rfl (lv_at hl 1 rfl) ?_
      refine galdr (j := i) hx hb hK hP 3 3 rfl rfl e0.1 e0.2 (by decide) dX2_lookUp_16 ?_
      refine lv_astore_n (lv' := [(3, .ref (rA i)), (0, .ref na), (1, .int p0), (2, .int p1)]) hx hb dX2_lookUp_17 rfl hl (by decide) rfl (fun ls hl => ?_)
      refine lv_aload_n hx hb dX2_lookUp_18 rfl (lv_at hl 0 rfl) ?_
      refine lv_iload_n hx hb dX2_lookUp_19 rfl (lv_at hl 3 rfl) ?_
      refine gtop (y := nI j) e1.1 ?_
      refine lv_aload_n hx hb dX2_lookUp_20 rfl (lv_at hl 1 rfl) ?_
      refine va_get (D := G) (ci := 2) (v := .int (D 3)) (C := RX2) (T := TX2) (N := 6) hx hb hts hiRX2 hown hK hP 0 rfl rfl 3 (by decide) (hts (.fieldLink RX2 44 "NameAuction" "day" "I") (by decide +kernel)) (fun _ h9 => h9) rfl dX2_lookUp_21 ?_
      refine gci (va_runVN (As := [.int (nI j), .int (D 3)]) (rest := []) ⟨hx, hb, hml, hown, hts⟩ (kX1_isFresh l G T (rA i) y2 y3 y4 y5 rk rf rg rh j (D 3) _ e1.2) ⟨(va_cnB 2 hts ggX2_lookUp_X1_isFresh rfl rfl rfl (hE.1 (.methodLinkNest RX2 122 yX1_isFresh RX2) (by decide +kernel)) (hts (.initialized RX1) (by decide +kernel)) (by decide +kernel) ⟨Nat.le_of_ble_eq_true rfl, Nat.le_of_ble_eq_true rfl⟩), hts (.instanceMethod yX1_isFresh) (by decide +kernel), hts (.selects RX1 yX1_isFresh yX1_isFresh) (by decide +kernel)⟩ ⟨gblind, va_recv hK hP (ci := 1) (q0 := 7) rfl rfl, gpre hE hK hP hD hS hA [7, 8, 9, 10, 11] rfl rfl⟩ rfl rfl hl.1 rfl (lv_room (Nat.le_of_ble_eq_true rfl)) dX2_lookUp_24 ⟨Nat.le_of_ble_eq_true rfl, Nat.le_of_ble_eq_true rfl⟩) hP hD hS hA [7, 8, 9, 10, 11] rfl rfl (fun r9 H locs hw hP hD hS => ?_)
      have hP : va_P G vwCl ((cA T na mo nm rs D mny nA rA) ++ (cN T (nA j) x2 x3 N f g) ++ (cR T (rA i) y2 y3 y4 y5 rk rf rg rh)) H := hP
      have hD : va_D (va_A ((cA T na mo nm rs D mny nA rA) ++ (cN T (nA j) x2 x3 N f g) ++ (cR T (rA i) y2 y3 y4 y5 rk rf rg rh)) s.heap.size) ((cA T na mo nm rs D mny nA rA) ++ (cN T (nA j) x2 x3 N f g) ++ (cR T (rA i) y2 y3 y4 y5 rk rf rg rh)) := hD
      subst hw
      refine lv_if_ne (tgt := 57) hx hb dX2_lookUp_27 (by decide) (fun c27 => ?_) (fun c27 => ?_)
      · skip
        refine lv_aload_n hx hb dX2_lookUp_57 rfl (lv_at hl 0 rfl) ?_
        refine va_getN (D := G) (ci := 1) (v := .ref y3) (C := RX1) (T := TX1) (N := 4) hx hb hts hiRX1 hown hK hP 7 rfl rfl 1 (by decide) (va_Nw.use rfl (hE.1 (.fieldLinkNest RX2 135 "NameAuction$Resolver" "answers" "[I" RX2) (by decide +kernel))) (fun _ h9 => h9) rfl dX2_lookUp_58 ?_
        refine lv_iload_n hx hb dX2_lookUp_61 rfl (lv_at hl 3 rfl) ?_
        refine giald (j := j) hx hb hK hP 9 0 rfl rfl e1.1 e1.2 (by decide) dX2_lookUp_62 ?_
        refine vx_ret ?_
        exact W.iret (v := rf j) hx hb hr (fun t ht9 hW => ⟨⟨rf j, (), rfl, ⟨(by simp [kRN, c27, hok2, hok8]), by simp only [sLook, c27, hok2, hok8]; simp [upd]⟩, gBi ht9 (gfin hP (by simp [sLook, c27, hok2, hok8]))⟩, hS.F ht9⟩) hS.2.2 dX2_lookUp_63
      · skip
        refine lv_aload_n hx hb dX2_lookUp_30 rfl (lv_at hl 0 rfl) ?_
        refine lv_iload_n hx hb dX2_lookUp_31 rfl (lv_at hl 3 rfl) ?_
        refine gtop (y := nI j) e1.1 ?_
        refine lv_aload_n hx hb dX2_lookUp_32 rfl (lv_at hl 1 rfl) ?_
        refine va_get (D := G) (ci := 2) (v := .ref nm) (C := RX2) (T := TX2) (N := 6) hx hb hts hiRX2 hown hK hP 0 rfl rfl 1 (by decide) (hts (.fieldLink RX2 15 "NameAuction" "names" "[LNameAuction$Name;") (by decide +kernel)) (fun _ h9 => h9) rfl dX2_lookUp_33 ?_
        refine lv_iload_n hx hb dX2_lookUp_36 rfl (lv_at hl 3 rfl) ?_
        refine galdr (j := j) hx hb hK hP 2 2 rfl rfl e1.1 e1.2 (by decide) dX2_lookUp_37 ?_
        refine gci (va_runVN (As := []) (rest := [.int (nI j), .ref (rA i)]) ⟨hx, hb, hml, hown, hts⟩ (kX0_answer l G T (nA j) x2 x3 N f g _) ⟨(va_cnB 0 hts ggX2_lookUp_X0_answer rfl rfl rfl (hE.1 (.methodLinkNest RX2 125 yX0_answer RX2) (by decide +kernel)) (hts (.initialized RX0) (by decide +kernel)) (by decide +kernel) ⟨Nat.le_of_ble_eq_true rfl, Nat.le_of_ble_eq_true rfl⟩), hts (.instanceMethod yX0_answer) (by decide +kernel), hts (.selects RX0 yX0_answer yX0_answer) (by decide +kernel)⟩ ⟨gblind, va_recv hK hP (ci := 0) (q0 := 4) rfl rfl, gpre hE hK hP hD hS hA [4, 5, 6] rfl rfl⟩ rfl rfl hl.1 rfl (lv_room (Nat.le_of_ble_eq_true rfl)) dX2_lookUp_38 ⟨Nat.le_of_ble_eq_true rfl, Nat.le_of_ble_eq_true rfl⟩) hP hD hS hA [4, 5, 6] rfl rfl (fun r9 H locs hw hP hD hS => ?_)
        have hP : va_P G vwCl ((cA T na mo nm rs D mny nA rA) ++ (cN T (nA j) x2 x3 N f g) ++ (cR T (rA i) y2 y3 y4 y5 rk rf rg rh)) H := hP
        have hD : va_D (va_A ((cA T na mo nm rs D mny nA rA) ++ (cN T (nA j) x2 x3 N f g) ++ (cR T (rA i) y2 y3 y4 y5 rk rf rg rh)) s.heap.size) ((cA T na mo nm rs D mny nA rA) ++ (cN T (nA j) x2 x3 N f g) ++ (cR T (rA i) y2 y3 y4 y5 rk rf rg rh)) := hD
        subst hw
        refine lv_aload_n hx hb dX2_lookUp_41 rfl (lv_at hl 1 rfl) ?_
        refine va_get (D := G) (ci := 2) (v := .ref nm) (C := RX2) (T := TX2) (N := 6) hx hb hts hiRX2 hown hK hP 0 rfl rfl 1 (by decide) (hts (.fieldLink RX2 15 "NameAuction" "names" "[LNameAuction$Name;") (by decide +kernel)) (fun _ h9 => h9) rfl dX2_lookUp_42 ?_
        refine lv_iload_n hx hb dX2_lookUp_45 rfl (lv_at hl 3 rfl) ?_
        refine galdr (j := j) hx hb hK hP 2 2 rfl rfl e1.1 e1.2 (by decide) dX2_lookUp_46 ?_
        refine gci (va_runVN (As := []) (rest := [.int (sAns N), .int (nI j), .ref (rA i)]) ⟨hx, hb, hml, hown, hts⟩ (kX0_answerLifetime l G T (nA j) x2 x3 N f g _) ⟨(va_cnB 0 hts ggX2_lookUp_X0_answerLifetime rfl rfl rfl (hE.1 (.methodLinkNest RX2 128 yX0_answerLifetime RX2) (by decide +kernel)) (hts (.initialized RX0) (by decide +kernel)) (by decide +kernel) ⟨Nat.le_of_ble_eq_true rfl, Nat.le_of_ble_eq_true rfl⟩), hts (.instanceMethod yX0_answerLifetime) (by decide +kernel), hts (.selects RX0 yX0_answerLifetime yX0_answerLifetime) (by decide +kernel)⟩ ⟨gblind, va_recv hK hP (ci := 0) (q0 := 4) rfl rfl, gpre hE hK hP hD hS hA [4, 5, 6] rfl rfl⟩ rfl rfl hl.1 rfl (lv_room (Nat.le_of_ble_eq_true rfl)) dX2_lookUp_47 ⟨Nat.le_of_ble_eq_true rfl, Nat.le_of_ble_eq_true rfl⟩) hP hD hS hA [4, 5, 6] rfl rfl (fun r9 H locs hw hP hD hS => ?_)
        have hP : va_P G vwCl ((cA T na mo nm rs D mny nA rA) ++ (cN T (nA j) x2 x3 N f g) ++ (cR T (rA i) y2 y3 y4 y5 rk rf rg rh)) H := hP
        have hD : va_D (va_A ((cA T na mo nm rs D mny nA rA) ++ (cN T (nA j) x2 x3 N f g) ++ (cR T (rA i) y2 y3 y4 y5 rk rf rg rh)) s.heap.size) ((cA T na mo nm rs D mny nA rA) ++ (cN T (nA j) x2 x3 N f g) ++ (cR T (rA i) y2 y3 y4 y5 rk rf rg rh)) := hD
        subst hw
        refine lv_aload_n hx hb dX2_lookUp_50 rfl (lv_at hl 1 rfl) ?_
        refine va_get (D := G) (ci := 2) (v := .int (D 3)) (C := RX2) (T := TX2) (N := 6) hx hb hts hiRX2 hown hK hP 0 rfl rfl 3 (by decide) (hts (.fieldLink RX2 44 "NameAuction" "day" "I") (by decide +kernel)) (fun _ h9 => h9) rfl dX2_lookUp_51 ?_
        refine gcv (va_runVN (As := [.int (nI j), .int (sAns N), .int (sLife N), .int (D 3)]) (rest := []) ⟨hx, hb, hml, hown, hts⟩ (kX1_keep l G T (rA i) y2 y3 y4 y5 rk rf rg rh j (sAns N) (sLife N) (D 3) _ e1.2) ⟨(va_cnB 4 hts ggX2_lookUp_X1_keep rfl rfl rfl (hE.1 (.methodLinkNest RX2 131 yX1_keep RX2) (by decide +kernel)) (hts (.initialized RX1) (by decide +kernel)) (by decide +kernel) ⟨Nat.le_of_ble_eq_true rfl, Nat.le_of_ble_eq_true rfl⟩), hts (.instanceMethod yX1_keep) (by decide +kernel), hts (.selects RX1 yX1_keep yX1_keep) (by decide +kernel)⟩ ⟨gblind, va_recv hK hP (ci := 1) (q0 := 7) rfl rfl, gpre hE hK hP hD hS hA [7, 8, 9, 10, 11] rfl rfl⟩ rfl rfl hl.1 rfl (lv_room (Nat.le_of_ble_eq_true rfl)) dX2_lookUp_54 ⟨Nat.le_of_ble_eq_true rfl, Nat.le_of_ble_eq_true rfl⟩) hP hD hS hA [7, 8, 9, 10, 11] rfl rfl (fun H locs hw hP hD hS => ?_)
        have hP : va_P G vwCl ((cA T na mo nm rs D mny nA rA) ++ (cN T (nA j) x2 x3 N f g) ++ (cR T (rA i) y2 y3 y4 y5 (upd rk j 1) (upd rf j (sAns N)) (upd rg j (sLife N)) (upd rh j (D 3)))) H := hP
        have hD : va_D (va_A ((cA T na mo nm rs D mny nA rA) ++ (cN T (nA j) x2 x3 N f g) ++ (cR T (rA i) y2 y3 y4 y5 rk rf rg rh)) s.heap.size) ((cA T na mo nm rs D mny nA rA) ++ (cN T (nA j) x2 x3 N f g) ++ (cR T (rA i) y2 y3 y4 y5 (upd rk j 1) (upd rf j (sAns N)) (upd rg j (sLife N)) (upd rh j (D 3)))) := hD
        refine lv_aload_n hx hb dX2_lookUp_57 rfl (lv_at hl 0 rfl) ?_
        refine va_getN (D := G) (ci := 1) (v := .ref y3) (C := RX1) (T := TX1) (N := 4) hx hb hts hiRX1 hown hK hP 7 rfl rfl 1 (by decide) (va_Nw.use rfl (hE.1 (.fieldLinkNest RX2 135 "NameAuction$Resolver" "answers" "[I" RX2) (by decide +kernel))) (fun _ h9 => h9) rfl dX2_lookUp_58 ?_
        refine lv_iload_n hx hb dX2_lookUp_61 rfl (lv_at hl 3 rfl) ?_
        refine giald (j := j) hx hb hK hP 9 0 rfl rfl e1.1 e1.2 (by decide) dX2_lookUp_62 ?_
        refine vx_ret ?_
        exact W.iret (v := (upd rf j (sAns N)) j) hx hb hr (fun t ht9 hW => ⟨⟨(upd rf j (sAns N)) j, (), rfl, ⟨(by simp [kRN, c27, hok2, hok8]), by simp only [sLook, c27, hok2, hok8]; simp [upd]⟩, gBi ht9 (gfin hP (by simp [sLook, c27, hok2, hok8]))⟩, hS.F ht9⟩) hS.2.2 dX2_lookUp_63
abbrev PX2_isStale (G : va_G) (T : Nat → ClassId) (na mo nm rs : Nat) (D mny : Nat → Int32) (nA rA : Nat → Nat) (j x2 x3 : Nat) (N f g : Nat → Int32) (i y2 y3 y4 y5 : Nat) (rk rf rg rh : Nat → Int32) (p0 p1 : Int32) (sz : Nat) : Array Value → State → Prop := gPc G T [.ref na, .int p0, .int p1] ((cA T na mo nm rs D mny nA rA) ++ (cN T (nA j) x2 x3 N f g) ++ (cR T (rA i) y2 y3 y4 y5 rk rf rg rh)) sz
abbrev QX2_isStale (G : va_G) (T : Nat → ClassId) (na mo nm rs : Nat) (D mny : Nat → Int32) (nA rA : Nat → Nat) (j x2 x3 : Nat) (N f g : Nat → Int32) (i y2 y3 y4 y5 : Nat) (rk rf rg rh : Nat → Int32) (p0 p1 : Int32) (sz : Nat) : Array Value → State → Outcome → State → Prop := va_Qi (fun (r : Int32) (_ : Unit) => kRN p0 p1 = 0 ∧ r = sStale (sFresh rk rg rh j (D 3)) (rf j) (sAns N)) (gB G ((cA T na mo nm rs D mny nA rA) ++ (cN T (nA j) x2 x3 N f g) ++ (cR T (rA i) y2 y3 y4 y5 rk rf rg rh))) (va_A ((cA T na mo nm rs D mny nA rA) ++ (cN T (nA j) x2 x3 N f g) ++ (cR T (rA i) y2 y3 y4 y5 rk rf rg rh)) sz)
abbrev XX2_isStale (G : va_G) (T : Nat → ClassId) (na mo nm rs : Nat) (D mny : Nat → Int32) (nA rA : Nat → Nat) (j x2 x3 : Nat) (N f g : Nat → Int32) (i y2 y3 y4 y5 : Nat) (rk rf rg rh : Nat → Int32) (p0 p1 : Int32) (sz : Nat) : String → State → State → Prop := gX G ((cA T na mo nm rs D mny nA rA) ++ (cN T (nA j) x2 x3 N f g) ++ (cR T (rA i) y2 y3 y4 y5 rk rf rg rh)) sz (fun E => pK (kRN p0 p1) E)
set_option maxHeartbeats 4000000 in
set_option maxRecDepth 100000 in
theorem kX2_isStale (l : Launch) (hl0 : l.stackTraces = false) (G : va_G) (T : Nat → ClassId) (na mo nm rs : Nat) (D mny : Nat → Int32) (nA rA : Nat → Nat) (j x2 x3 : Nat) (N f g : Nat → Int32) (i y2 y3 y4 y5 : Nat) (rk rf rg rh : Nat → Int32) (p0 p1 : Int32) (sz : Nat) (hr9 : okI p0 3 = true → p0 = nI i ∧ i < 3) (hj : okI p1 16 = true → p1 = nI j ∧ j < 16) : vx_Met l yX2_isStale wsX2_isStale ({ frames := 7, cells := 2, slots := 12, locals := 102 } : Room) (PX2_isStale G T na mo nm rs D mny nA rA j x2 x3 N f g i y2 y3 y4 y5 rk rf rg rh p0 p1 sz) (QX2_isStale G T na mo nm rs D mny nA rA j x2 x3 N f g i y2 y3 y4 y5 rk rf rg rh p0 p1 sz) (XX2_isStale G T na mo nm rs D mny nA rA j x2 x3 N f g i y2 y3 y4 y5 rk rf rg rh p0 p1 sz) 2 12 (va_A ((cA T na mo nm rs D mny nA rA) ++ (cN T (nA j) x2 x3 N f g) ++ (cR T (rA i) y2 y3 y4 y5 rk rf rg rh)) sz) := by
  refine vx_ofW (cc := cX2_isStale) (maxL := 4) (ret := (some .boolean)) (by decide) rfl ?_
  intro p e s m args below meth c s₁ B hml ht hv
  obtain ⟨rfl, hsz, hP, hK, hD0, hE⟩ := hv
  have hx := B.exec
  have hb := B.bytes
  have hr := B.returns
  have hts := atoms_spec (ws := wsX2_isStale) B.pre
  have hown : s.vm.findClass RX2 = some m.cls := findClass_of_methodNamed B.named
  have hlocks := B.notSynchronized
  subst hsz
  have hD := hD0.self (sz := s.heap.size)
  have hA : ∀ q : Nat, s.heap.size ≤ q → (va_A ((cA T na mo nm rs D mny nA rA) ++ (cN T (nA j) x2 x3 N f g) ++ (cR T (rA i) y2 y3 y4 y5 rk rf rg rh)) s.heap.size) q := fun q h => Or.inr h
  have hS : va_S (va_A ((cA T na mo nm rs D mny nA rA) ++ (cN T (nA j) x2 x3 N f g) ++ (cR T (rA i) y2 y3 y4 y5 rk rf rg rh)) s.heap.size) s.heap s.heap [] := va_S.rf
  have hiRX1 : ∀ w ∈ u_ws RX1 TX1 4, w ∈ wsX2_isStale := by decide +kernel
  have hiRX2 : ∀ w ∈ u_ws RX2 TX2 6, w ∈ wsX2_isStale := by decide +kernel
  have hl := lv_entry ([.ref na, .int p0, .int p1]) (n := 4) (Nat.le_of_ble_eq_true rfl)
  rw [lg_entry_eq]
  generalize (lg_sl ([.ref na, .int p0, .int p1]) ++ List.replicate (4 - (lg_sl ([.ref na, .int p0, .int p1])).length) Slot.unset).toArray = ls at hl ⊢
  have hl : lv_has ls 4 [(0, .ref na), (1, .int p0), (2, .int p1)] := hl
  have hP : va_P G vwCl ((cA T na mo nm rs D mny nA rA) ++ (cN T (nA j) x2 x3 N f g) ++ (cR T (rA i) y2 y3 y4 y5 rk rf rg rh)) s.heap := hP
  refine lv_iload_n hx hb dX2_isStale_0 rfl (lv_at hl 1 rfl) ?_
  refine lv_iconst (v := 3) hx hb dX2_isStale_1 (by decide) ?_
  refine gxv (vx_runS (As := [.int p0, .int 3]) (rest := []) ⟨hx, hb, hml, hown, hts⟩ (kX2_checkIndex l hl0 G T p0 3 _) (va_cwS 2 hts gX2_isStale_X2_checkIndex rfl rfl rfl (by decide +kernel) ⟨Nat.le_of_ble_eq_true rfl, Nat.le_of_ble_eq_true rfl⟩) ⟨gblind, gpre hE hK hP hD hS hA [] rfl rfl⟩ rfl rfl hl.1 rfl (lv_room (Nat.le_of_ble_eq_true rfl)) dX2_isStale_2 ⟨Nat.le_of_ble_eq_true rfl, Nat.le_of_ble_eq_true rfl⟩) hP hD hS hA [] rfl rfl (fun E9 ce9 q9 H locs he hP hD hS hce hcv hcl => ?_) (fun H locs hw hP hD hS => ?_)
  · skip
    have hP : va_P G vwCl ((cA T na mo nm rs D mny nA rA) ++ (cN T (nA j) x2 x3 N f g) ++ (cR T (rA i) y2 y3 y4 y5 rk rf rg rh)) H := hP
    have hD : va_D (va_A ((cA T na mo nm rs D mny nA rA) ++ (cN T (nA j) x2 x3 N f g) ++ (cR T (rA i) y2 y3 y4 y5 rk rf rg rh)) s.heap.size) ((cA T na mo nm rs D mny nA rA) ++ (cN T (nA j) x2 x3 N f g) ++ (cR T (rA i) y2 y3 y4 y5 rk rf rg rh)) := hD
    exact gout (pe := fun E => pK (kRN p0 p1) E) ht hlocks (by obtain ⟨h8, h9⟩ := he; subst h8; simp [pK, kRN, h9]) hP hS hce hcv hcl (Nat.le_of_ble_eq_true rfl) (Nat.le_of_ble_eq_true rfl)
  · skip
    have hP : va_P G vwCl ((cA T na mo nm rs D mny nA rA) ++ (cN T (nA j) x2 x3 N f g) ++ (cR T (rA i) y2 y3 y4 y5 rk rf rg rh)) H := hP
    have hD : va_D (va_A ((cA T na mo nm rs D mny nA rA) ++ (cN T (nA j) x2 x3 N f g) ++ (cR T (rA i) y2 y3 y4 y5 rk rf rg rh)) s.heap.size) ((cA T na mo nm rs D mny nA rA) ++ (cN T (nA j) x2 x3 N f g) ++ (cR T (rA i) y2 y3 y4 y5 rk rf rg rh)) := hD
    have hok2 := hw
    have e0 := hr9 hok2
    refine lv_iload_n hx hb dX2_isStale_5 rfl (lv_at hl 2 rfl) ?_
    refine lv_bipush (v := 16) hx hb dX2_isStale_6 (by decide) ?_
    refine gxv (vx_runS (As := [.int p1, .int 16]) (rest := []) ⟨hx, hb, hml, hown, hts⟩ (kX2_checkIndex l hl0 G T p1 16 _) (va_cwS 2 hts gX2_isStale_X2_checkIndex rfl rfl rfl (by decide +kernel) ⟨Nat.le_of_ble_eq_true rfl, Nat.le_of_ble_eq_true rfl⟩) ⟨gblind, gpre hE hK hP hD hS hA [] rfl rfl⟩ rfl rfl hl.1 rfl (lv_room (Nat.le_of_ble_eq_true rfl)) dX2_isStale_8 ⟨Nat.le_of_ble_eq_true rfl, Nat.le_of_ble_eq_true rfl⟩) hP hD hS hA [] rfl rfl (fun E9 ce9 q9 H locs he hP hD hS hce hcv hcl => ?_) (fun H locs hw hP hD hS => ?_)
    · skip
      have hP : va_P G vwCl ((cA T na mo nm rs D mny nA rA) ++ (cN T (nA j) x2 x3 N f g) ++ (cR T (rA i) y2 y3 y4 y5 rk rf rg rh)) H := hP
      have hD : va_D (va_A ((cA T na mo nm rs D mny nA rA) ++ (cN T (nA j) x2 x3 N f g) ++ (cR T (rA i) y2 y3 y4 y5 rk rf rg rh)) s.heap.size) ((cA T na mo nm rs D mny nA rA) ++ (cN T (nA j) x2 x3 N f g) ++ (cR T (rA i) y2 y3 y4 y5 rk rf rg rh)) := hD
      exact gout (pe := fun E => pK (kRN p0 p1) E) ht hlocks (by obtain ⟨h8, h9⟩ := he; subst h8; simp [pK, kRN, h9, hok2]) hP hS hce hcv hcl (Nat.le_of_ble_eq_true rfl) (Nat.le_of_ble_eq_true rfl)
    · skip
      have hP : va_P G vwCl ((cA T na mo nm rs D mny nA rA) ++ (cN T (nA j) x2 x3 N f g) ++ (cR T (rA i) y2 y3 y4 y5 rk rf rg rh)) H := hP
      have hD : va_D (va_A ((cA T na mo nm rs D mny nA rA) ++ (cN T (nA j) x2 x3 N f g) ++ (cR T (rA i) y2 y3 y4 y5 rk rf rg rh)) s.heap.size) ((cA T na mo nm rs D mny nA rA) ++ (cN T (nA j) x2 x3 N f g) ++ (cR T (rA i) y2 y3 y4 y5 rk rf rg rh)) := hD
      have hok8 := hw
      have e1 := hj hok8
      refine lv_aload_n hx hb dX2_isStale_11 rfl (lv_at hl 0 rfl) ?_
      refine va_get (D := G) (ci := 2) (v := .ref rs) (C := RX2) (T := TX2) (N := 6) hx hb hts hiRX2 hown hK hP 0 rfl rfl 2 (by decide) (hts (.fieldLink RX2 21 "NameAuction" "resolvers" "[LNameAuction$Resolver;") (by decide +kernel)) (fun _ h9 => h9) rfl dX2_isStale_12 ?_
      refine lv_iload_n hx hb dX2_isStale_15 rfl (lv_at hl 1 rfl) ?_
      refine galdr (j := i) hx hb hK hP 3 3 rfl rfl e0.1 e0.2 (by decide) dX2_isStale_16 ?_
      refine lv_astore_n (lv' := [(3, .ref (rA i)), (0, .ref na), (1, .int p0), (2, .int p1)]) hx hb dX2_isStale_17 rfl hl (by decide) rfl (fun ls hl => ?_)
      refine lv_aload_n hx hb dX2_isStale_18 rfl (lv_at hl 0 rfl) ?_
      refine lv_iload_n hx hb dX2_isStale_19 rfl (lv_at hl 3 rfl) ?_
      refine gtop (y := nI j) e1.1 ?_
      refine lv_aload_n hx hb dX2_isStale_20 rfl (lv_at hl 1 rfl) ?_
      refine va_get (D := G) (ci := 2) (v := .int (D 3)) (C := RX2) (T := TX2) (N := 6) hx hb hts hiRX2 hown hK hP 0 rfl rfl 3 (by decide) (hts (.fieldLink RX2 44 "NameAuction" "day" "I") (by decide +kernel)) (fun _ h9 => h9) rfl dX2_isStale_21 ?_
      refine gci (va_runVN (As := [.int (nI j), .int (D 3)]) (rest := []) ⟨hx, hb, hml, hown, hts⟩ (kX1_isFresh l G T (rA i) y2 y3 y4 y5 rk rf rg rh j (D 3) _ e1.2) ⟨(va_cnB 2 hts ggX2_isStale_X1_isFresh rfl rfl rfl (hE.1 (.methodLinkNest RX2 122 yX1_isFresh RX2) (by decide +kernel)) (hts (.initialized RX1) (by decide +kernel)) (by decide +kernel) ⟨Nat.le_of_ble_eq_true rfl, Nat.le_of_ble_eq_true rfl⟩), hts (.instanceMethod yX1_isFresh) (by decide +kernel), hts (.selects RX1 yX1_isFresh yX1_isFresh) (by decide +kernel)⟩ ⟨gblind, va_recv hK hP (ci := 1) (q0 := 7) rfl rfl, gpre hE hK hP hD hS hA [7, 8, 9, 10, 11] rfl rfl⟩ rfl rfl hl.1 rfl (lv_room (Nat.le_of_ble_eq_true rfl)) dX2_isStale_24 ⟨Nat.le_of_ble_eq_true rfl, Nat.le_of_ble_eq_true rfl⟩) hP hD hS hA [7, 8, 9, 10, 11] rfl rfl (fun r9 H locs hw hP hD hS => ?_)
      have hP : va_P G vwCl ((cA T na mo nm rs D mny nA rA) ++ (cN T (nA j) x2 x3 N f g) ++ (cR T (rA i) y2 y3 y4 y5 rk rf rg rh)) H := hP
      have hD : va_D (va_A ((cA T na mo nm rs D mny nA rA) ++ (cN T (nA j) x2 x3 N f g) ++ (cR T (rA i) y2 y3 y4 y5 rk rf rg rh)) s.heap.size) ((cA T na mo nm rs D mny nA rA) ++ (cN T (nA j) x2 x3 N f g) ++ (cR T (rA i) y2 y3 y4 y5 rk rf rg rh)) := hD
      subst hw
      refine lv_if_eq (tgt := 52) hx hb dX2_isStale_27 (by decide) (fun c27 => ?_) (fun c27 => ?_)
      · skip
        refine lv_iconst (v := 0) hx hb dX2_isStale_52 (by decide) ?_
        refine vx_ret ?_
        exact W.zret (v := 0) hx hb hr (by decide) (fun t ht9 hW => ⟨⟨0, (), rfl, ⟨(by simp [kRN, c27, hok2, hok8]), by simp [sStale, c27, hok2, hok8]⟩, gBi ht9 (gfin hP (rfl))⟩, hS.F ht9⟩) hS.2.2 dX2_isStale_53
      · skip
        refine lv_aload_n hx hb dX2_isStale_30 rfl (lv_at hl 0 rfl) ?_
        refine va_getN (D := G) (ci := 1) (v := .ref y3) (C := RX1) (T := TX1) (N := 4) hx hb hts hiRX1 hown hK hP 7 rfl rfl 1 (by decide) (va_Nw.use rfl (hE.1 (.fieldLinkNest RX2 135 "NameAuction$Resolver" "answers" "[I" RX2) (by decide +kernel))) (fun _ h9 => h9) rfl dX2_isStale_31 ?_
        refine lv_iload_n hx hb dX2_isStale_34 rfl (lv_at hl 3 rfl) ?_
        refine giald (j := j) hx hb hK hP 9 0 rfl rfl e1.1 e1.2 (by decide) dX2_isStale_35 ?_
        refine lv_aload_n hx hb dX2_isStale_36 rfl (lv_at hl 1 rfl) ?_
        refine va_get (D := G) (ci := 2) (v := .ref nm) (C := RX2) (T := TX2) (N := 6) hx hb hts hiRX2 hown hK hP 0 rfl rfl 1 (by decide) (hts (.fieldLink RX2 15 "NameAuction" "names" "[LNameAuction$Name;") (by decide +kernel)) (fun _ h9 => h9) rfl dX2_isStale_37 ?_
        refine lv_iload_n hx hb dX2_isStale_40 rfl (lv_at hl 3 rfl) ?_
        refine galdr (j := j) hx hb hK hP 2 2 rfl rfl e1.1 e1.2 (by decide) dX2_isStale_41 ?_
        refine gci (va_runVN (As := []) (rest := [.int (rf j)]) ⟨hx, hb, hml, hown, hts⟩ (kX0_answer l G T (nA j) x2 x3 N f g _) ⟨(va_cnB 0 hts ggX2_isStale_X0_answer rfl rfl rfl (hE.1 (.methodLinkNest RX2 125 yX0_answer RX2) (by decide +kernel)) (hts (.initialized RX0) (by decide +kernel)) (by decide +kernel) ⟨Nat.le_of_ble_eq_true rfl, Nat.le_of_ble_eq_true rfl⟩), hts (.instanceMethod yX0_answer) (by decide +kernel), hts (.selects RX0 yX0_answer yX0_answer) (by decide +kernel)⟩ ⟨gblind, va_recv hK hP (ci := 0) (q0 := 4) rfl rfl, gpre hE hK hP hD hS hA [4, 5, 6] rfl rfl⟩ rfl rfl hl.1 rfl (lv_room (Nat.le_of_ble_eq_true rfl)) dX2_isStale_42 ⟨Nat.le_of_ble_eq_true rfl, Nat.le_of_ble_eq_true rfl⟩) hP hD hS hA [4, 5, 6] rfl rfl (fun r9 H locs hw hP hD hS => ?_)
        have hP : va_P G vwCl ((cA T na mo nm rs D mny nA rA) ++ (cN T (nA j) x2 x3 N f g) ++ (cR T (rA i) y2 y3 y4 y5 rk rf rg rh)) H := hP
        have hD : va_D (va_A ((cA T na mo nm rs D mny nA rA) ++ (cN T (nA j) x2 x3 N f g) ++ (cR T (rA i) y2 y3 y4 y5 rk rf rg rh)) s.heap.size) ((cA T na mo nm rs D mny nA rA) ++ (cN T (nA j) x2 x3 N f g) ++ (cR T (rA i) y2 y3 y4 y5 rk rf rg rh)) := hD
        subst hw
        refine lv_icmp_eq (tgt := 52) hx hb dX2_isStale_45 (by decide) (fun c45 => ?_) (fun c45 => ?_)
        · skip
          refine lv_iconst (v := 0) hx hb dX2_isStale_52 (by decide) ?_
          refine vx_ret ?_
          exact W.zret (v := 0) hx hb hr (by decide) (fun t ht9 hW => ⟨⟨0, (), rfl, ⟨(by simp [kRN, c27, c45, hok2, hok8]), by simp [sStale, c27, c45, hok2, hok8]⟩, gBi ht9 (gfin hP (rfl))⟩, hS.F ht9⟩) hS.2.2 dX2_isStale_53
        · skip
          refine lv_iconst (v := 1) hx hb dX2_isStale_48 (by decide) ?_
          refine lv_goto (tgt := 53) hx hb dX2_isStale_49 (by decide) ?_
          refine vx_ret ?_
          exact W.zret (v := 1) hx hb hr (by decide) (fun t ht9 hW => ⟨⟨1, (), rfl, ⟨(by simp [kRN, c27, c45, hok2, hok8]), by simp [sStale, c27, c45, hok2, hok8]⟩, gBi ht9 (gfin hP (rfl))⟩, hS.F ht9⟩) hS.2.2 dX2_isStale_53
abbrev PX2_flush (G : va_G) (T : Nat → ClassId) (na mo nm rs : Nat) (D mny : Nat → Int32) (nA rA : Nat → Nat) (i y2 y3 y4 y5 : Nat) (rk rf rg rh : Nat → Int32) (p0 : Int32) (sz : Nat) : Array Value → State → Prop := gPc G T [.ref na, .int p0] ((cA T na mo nm rs D mny nA rA) ++ (cR T (rA i) y2 y3 y4 y5 rk rf rg rh)) sz
abbrev QX2_flush (G : va_G) (T : Nat → ClassId) (na mo nm rs : Nat) (D mny : Nat → Int32) (nA rA : Nat → Nat) (i y2 y3 y4 y5 : Nat) (rk rf rg rh : Nat → Int32) (p0 : Int32) (sz : Nat) : Array Value → State → Outcome → State → Prop := va_Qi (fun (r : Int32) (_ : Unit) => kRes p0 = 0 ∧ r = sKept rk 16) (gB G ((cA T na mo nm rs D mny nA rA) ++ (cR T (rA i) y2 y3 y4 y5 (fun _ => 0) rf rg rh))) (va_A ((cA T na mo nm rs D mny nA rA) ++ (cR T (rA i) y2 y3 y4 y5 rk rf rg rh)) sz)
abbrev XX2_flush (G : va_G) (T : Nat → ClassId) (na mo nm rs : Nat) (D mny : Nat → Int32) (nA rA : Nat → Nat) (i y2 y3 y4 y5 : Nat) (rk rf rg rh : Nat → Int32) (p0 : Int32) (sz : Nat) : String → State → State → Prop := gX G ((cA T na mo nm rs D mny nA rA) ++ (cR T (rA i) y2 y3 y4 y5 rk rf rg rh)) sz (fun E => pK (kRes p0) E)
set_option maxHeartbeats 4000000 in
set_option maxRecDepth 100000 in
theorem kX2_flush (l : Launch) (hl0 : l.stackTraces = false) (G : va_G) (T : Nat → ClassId) (na mo nm rs : Nat) (D mny : Nat → Int32) (nA rA : Nat → Nat) (i y2 y3 y4 y5 : Nat) (rk rf rg rh : Nat → Int32) (p0 : Int32) (sz : Nat) (hr9 : okI p0 3 = true → p0 = nI i ∧ i < 3) : vx_Met l yX2_flush wsX2_flush ({ frames := 7, cells := 1, slots := 6, locals := 102 } : Room) (PX2_flush G T na mo nm rs D mny nA rA i y2 y3 y4 y5 rk rf rg rh p0 sz) (QX2_flush G T na mo nm rs D mny nA rA i y2 y3 y4 y5 rk rf rg rh p0 sz) (XX2_flush G T na mo nm rs D mny nA rA i y2 y3 y4 y5 rk rf rg rh p0 sz) 1 6 (va_A ((cA T na mo nm rs D mny nA rA) ++ (cR T (rA i) y2 y3 y4 y5 rk rf rg rh)) sz) := by
  refine vx_ofW (cc := cX2_flush) (maxL := 2) (ret := (some .int)) (by decide) rfl ?_
  intro p e s m args below meth c s₁ B hml ht hv
  obtain ⟨rfl, hsz, hP, hK, hD0, hE⟩ := hv
  have hx := B.exec
  have hb := B.bytes
  have hr := B.returns
  have hts := atoms_spec (ws := wsX2_flush) B.pre
  have hown : s.vm.findClass RX2 = some m.cls := findClass_of_methodNamed B.named
  have hlocks := B.notSynchronized
  subst hsz
  have hD := hD0.self (sz := s.heap.size)
  have hA : ∀ q : Nat, s.heap.size ≤ q → (va_A ((cA T na mo nm rs D mny nA rA) ++ (cR T (rA i) y2 y3 y4 y5 rk rf rg rh)) s.heap.size) q := fun q h => Or.inr h
  have hS : va_S (va_A ((cA T na mo nm rs D mny nA rA) ++ (cR T (rA i) y2 y3 y4 y5 rk rf rg rh)) s.heap.size) s.heap s.heap [] := va_S.rf
  have hiRX2 : ∀ w ∈ u_ws RX2 TX2 6, w ∈ wsX2_flush := by decide +kernel
  have hl := lv_entry ([.ref na, .int p0]) (n := 2) (Nat.le_of_ble_eq_true rfl)
  rw [lg_entry_eq]
  generalize (lg_sl ([.ref na, .int p0]) ++ List.replicate (2 - (lg_sl ([.ref na, .int p0])).length) Slot.unset).toArray = ls at hl ⊢
  have hl : lv_has ls 2 [(0, .ref na), (1, .int p0)] := hl
  have hP : va_P G vwCl ((cA T na mo nm rs D mny nA rA) ++ (cR T (rA i) y2 y3 y4 y5 rk rf rg rh)) s.heap := hP
  refine lv_iload_n hx hb dX2_flush_0 rfl (lv_at hl 1 rfl) ?_
  refine lv_iconst (v := 3) hx hb dX2_flush_1 (by decide) ?_
  refine gxv (vx_runS (As := [.int p0, .int 3]) (rest := []) ⟨hx, hb, hml, hown, hts⟩ (kX2_checkIndex l hl0 G T p0 3 _) (va_cwS 2 hts gX2_flush_X2_checkIndex rfl rfl rfl (by decide +kernel) ⟨Nat.le_of_ble_eq_true rfl, Nat.le_of_ble_eq_true rfl⟩) ⟨gblind, gpre hE hK hP hD hS hA [] rfl rfl⟩ rfl rfl hl.1 rfl (lv_room (Nat.le_of_ble_eq_true rfl)) dX2_flush_2 ⟨Nat.le_of_ble_eq_true rfl, Nat.le_of_ble_eq_true rfl⟩) hP hD hS hA [] rfl rfl (fun E9 ce9 q9 H locs he hP hD hS hce hcv hcl => ?_) (fun H locs hw hP hD hS => ?_)
  · skip
    have hP : va_P G vwCl ((cA T na mo nm rs D mny nA rA) ++ (cR T (rA i) y2 y3 y4 y5 rk rf rg rh)) H := hP
    have hD : va_D (va_A ((cA T na mo nm rs D mny nA rA) ++ (cR T (rA i) y2 y3 y4 y5 rk rf rg rh)) s.heap.size) ((cA T na mo nm rs D mny nA rA) ++ (cR T (rA i) y2 y3 y4 y5 rk rf rg rh)) := hD
    exact gout (pe := fun E => pK (kRes p0) E) ht hlocks (by obtain ⟨h8, h9⟩ := he; subst h8; simp [pK, kRes, h9]) hP hS hce hcv hcl (Nat.le_of_ble_eq_true rfl) (Nat.le_of_ble_eq_true rfl)
  · skip
    have hP : va_P G vwCl ((cA T na mo nm rs D mny nA rA) ++ (cR T (rA i) y2 y3 y4 y5 rk rf rg rh)) H := hP
    have hD : va_D (va_A ((cA T na mo nm rs D mny nA rA) ++ (cR T (rA i) y2 y3 y4 y5 rk rf rg rh)) s.heap.size) ((cA T na mo nm rs D mny nA rA) ++ (cR T (rA i) y2 y3 y4 y5 rk rf rg rh)) := hD
    have hok2 := hw
    have e0 := hr9 hok2
    refine lv_aload_n hx hb dX2_flush_5 rfl (lv_at hl 0 rfl) ?_
    refine va_get (D := G) (ci := 2) (v := .ref rs) (C := RX2) (T := TX2) (N := 6) hx hb hts hiRX2 hown hK hP 0 rfl rfl 2 (by decide) (hts (.fieldLink RX2 21 "NameAuction" "resolvers" "[LNameAuction$Resolver;") (by decide +kernel)) (fun _ h9 => h9) rfl dX2_flush_6 ?_
    refine lv_iload_n hx hb dX2_flush_9 rfl (lv_at hl 1 rfl) ?_
    refine galdr (j := i) hx hb hK hP 3 3 rfl rfl e0.1 e0.2 (by decide) dX2_flush_10 ?_
    refine gci (va_runVN (As := []) (rest := []) ⟨hx, hb, hml, hown, hts⟩ (kX1_forgetAll l G T (rA i) y2 y3 y4 y5 rk rf rg rh _) ⟨(va_cnB 0 hts ggX2_flush_X1_forgetAll rfl rfl rfl (hE.1 (.methodLinkNest RX2 138 yX1_forgetAll RX2) (by decide +kernel)) (hts (.initialized RX1) (by decide +kernel)) (by decide +kernel) ⟨Nat.le_of_ble_eq_true rfl, Nat.le_of_ble_eq_true rfl⟩), hts (.instanceMethod yX1_forgetAll) (by decide +kernel), hts (.selects RX1 yX1_forgetAll yX1_forgetAll) (by decide +kernel)⟩ ⟨gblind, va_recv hK hP (ci := 1) (q0 := 4) rfl rfl, gpre hE hK hP hD hS hA [4, 5, 6, 7, 8] rfl rfl⟩ rfl rfl hl.1 rfl (lv_room (Nat.le_of_ble_eq_true rfl)) dX2_flush_11 ⟨Nat.le_of_ble_eq_true rfl, Nat.le_of_ble_eq_true rfl⟩) hP hD hS hA [4, 5, 6, 7, 8] rfl rfl (fun r9 H locs hw hP hD hS => ?_)
    have hP : va_P G vwCl ((cA T na mo nm rs D mny nA rA) ++ (cR T (rA i) y2 y3 y4 y5 (fun _ => 0) rf rg rh)) H := hP
    have hD : va_D (va_A ((cA T na mo nm rs D mny nA rA) ++ (cR T (rA i) y2 y3 y4 y5 rk rf rg rh)) s.heap.size) ((cA T na mo nm rs D mny nA rA) ++ (cR T (rA i) y2 y3 y4 y5 (fun _ => 0) rf rg rh)) := hD
    subst hw
    refine vx_ret ?_
    exact W.iret (v := sKept rk 16) hx hb hr (fun t ht9 hW => ⟨⟨sKept rk 16, (), rfl, ⟨(by simp [kRes, hok2]), rfl⟩, gBi ht9 (gfin hP (rfl))⟩, hS.F ht9⟩) hS.2.2 dX2_flush_14
