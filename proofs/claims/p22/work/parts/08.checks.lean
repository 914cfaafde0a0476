/-! THE CHECKS, THE RESOLVERS, THE MONEY -/
def okI (x n : Int32) : Bool := decide (¬ x < 0 ∧ ¬ n ≤ x)
def okR (x a b : Int32) : Bool := decide (¬ x < a ∧ ¬ b < x)
theorem okI_of {x n : Int32} (h : okI x n = true) : ¬ x < 0 ∧ ¬ n ≤ x := of_decide_eq_true h
theorem okR_of {x a b : Int32} (h : okR x a b = true) : ¬ x < a ∧ ¬ b < x := of_decide_eq_true h
theorem okI_no {x n : Int32} (h : okI x n = false) : ¬ (¬ x < 0 ∧ ¬ n ≤ x) := of_decide_eq_false h
theorem okR_no {x a b : Int32} (h : okR x a b = false) : ¬ (¬ x < a ∧ ¬ b < x) := of_decide_eq_false h
def pK (k : Nat) (E : String) : Prop := (k = 1 ∧ E = eIO) ∨ (k = 2 ∧ E = eIA) ∨ (k = 3 ∧ E = eIS)
def sCan (f : Nat → Int32) (x y : Int32) : Int32 := bI (okI x 6 && decide (¬ f x.toNatClampNeg < y))
def sPayD (D f : Nat → Int32) (x y : Int32) : Nat → Int32 := if okI x 6 = true ∧ ¬ f x.toNatClampNeg < y then upd D 4 (D 4 + y) else D
def sPayF (f : Nat → Int32) (x y : Int32) : Nat → Int32 := if okI x 6 = true ∧ ¬ f x.toNatClampNeg < y then upd f x.toNatClampNeg (f x.toNatClampNeg - y) else f
def sFresh (k f h : Nat → Int32) (i : Nat) (t : Int32) : Int32 := bI (decide (k i ≠ 0 ∧ t - h i < f i))
def sKept (k : Nat → Int32) : Nat → Int32 | 0 => 0 | i + 1 => sKept k i + (if k i = 0 then 0 else 1)
theorem sKept_cong {k k2 : Nat → Int32} : ∀ n, (∀ j, j < n → k j = k2 j) → sKept k n = sKept k2 n
  | 0, _ => rfl
  | n + 1, h => by rw [sKept, sKept, sKept_cong n (fun j hj => h j (by omega)), h n (by omega)]
theorem okI_nat {x : Int32} {n : Nat} (hn : n < 2 ^ 31) (h : okI x (nI n) = true) : x = nI x.toNatClampNeg ∧ x.toNatClampNeg < n := by
  have h := okI_of h
  obtain ⟨j, hj, e⟩ := nI_of h.1
  have e2 : x.toNatClampNeg = j := by rw [e]; exact nI_clamp (by omega)
  rw [e2]
  refine ⟨e, ?_⟩
  rcases Nat.lt_or_ge j n with q | q
  · exact q
  · exact absurd (by rw [e]; exact nI_le q hj) h.2
abbrev PX1_isFresh (G : va_G) (T : Nat → ClassId) (x1 x2 x3 x4 x5 : Nat) (k f g h : Nat → Int32) (i : Nat) (p1 : Int32) (sz : Nat) : Array Value → State → Prop := gPc G T [.ref x1, .int (nI i), .int p1] (cR T x1 x2 x3 x4 x5 k f g h) sz
abbrev QX1_isFresh (G : va_G) (T : Nat → ClassId) (x1 x2 x3 x4 x5 : Nat) (k f g h : Nat → Int32) (i : Nat) (p1 : Int32) (sz : Nat) : Array Value → State → Outcome → State → Prop := va_Qi (fun (r : Int32) (_ : Unit) => r = sFresh k g h i p1) (gB G (cR T x1 x2 x3 x4 x5 k f g h)) (va_A (cR T x1 x2 x3 x4 x5 k f g h) sz)
set_option maxHeartbeats 4000000 in
set_option maxRecDepth 100000 in
theorem kX1_isFresh (l : Launch) (G : va_G) (T : Nat → ClassId) (x1 x2 x3 x4 x5 : Nat) (k f g h : Nat → Int32) (i : Nat) (p1 : Int32) (sz : Nat) (hi : i < 16) : Met l yX1_isFresh wsX1_isFresh ({ frames := 0, cells := 0, slots := 0, locals := 0 } : Room) (PX1_isFresh G T x1 x2 x3 x4 x5 k f g h i p1 sz) (QX1_isFresh G T x1 x2 x3 x4 x5 k f g h i p1 sz) 0 0 (va_A (cR T x1 x2 x3 x4 x5 k f g h) sz) := by
  refine Met.ofW (cc := cX1_isFresh) (maxL := 3) (ret := (some .boolean)) (by decide) rfl ?_
  intro p e s m args below meth c s₁ B hml hv
  obtain ⟨rfl, hsz, hP, hK, hD0, hE⟩ := hv
  have hx := B.exec
  have hb := B.bytes
  have hr := B.returns
  have hts := atoms_spec (ws := wsX1_isFresh) B.pre
  have hown : s.vm.findClass RX1 = some m.cls := findClass_of_methodNamed B.named
  have hlocks := B.notSynchronized
  subst hsz
  have hD := hD0.self (sz := s.heap.size)
  have hA : ∀ q : Nat, s.heap.size ≤ q → (va_A (cR T x1 x2 x3 x4 x5 k f g h) s.heap.size) q := fun q h => Or.inr h
  have hS : va_S (va_A (cR T x1 x2 x3 x4 x5 k f g h) s.heap.size) s.heap s.heap [] := va_S.rf
  have hiRX1 : ∀ w ∈ u_ws RX1 TX1 4, w ∈ wsX1_isFresh := by decide +kernel
  have hl := lv_entry ([.ref x1, .int (nI i), .int p1]) (n := 3) (Nat.le_of_ble_eq_true rfl)
  rw [lg_entry_eq]
  generalize (lg_sl ([.ref x1, .int (nI i), .int p1]) ++ List.replicate (3 - (lg_sl ([.ref x1, .int (nI i), .int p1])).length) Slot.unset).toArray = ls at hl ⊢
  have hl : lv_has ls 3 [(0, .ref x1), (1, .int (nI i)), (2, .int p1)] := hl
  have hP : va_P G vwCl (cR T x1 x2 x3 x4 x5 k f g h) s.heap := hP
  refine lv_aload_n hx hb dX1_isFresh_0 rfl (lv_at hl 0 rfl) ?_
  refine va_get (D := G) (ci := 1) (v := .ref x2) (C := RX1) (T := TX1) (N := 4) hx hb hts hiRX1 hown hK hP 0 rfl rfl 0 (by decide) (hts (.fieldLink RX1 9 "NameAuction$Resolver" "kept" "[Z") (by decide +kernel)) (fun _ h9 => h9) rfl dX1_isFresh_1 ?_
  refine lv_iload_n hx hb dX1_isFresh_4 rfl (lv_at hl 1 rfl) ?_
  refine gzald (j := i) hx hb hK hP 1 1 rfl rfl (show (nI i : Int32) = nI i from rfl) (by omega) (by decide) dX1_isFresh_5 ?_
  refine lv_if_eq (tgt := 30) hx hb dX1_isFresh_6 (by decide) (fun c6 => ?_) (fun c6 => ?_)
  · skip
    refine lv_iconst (v := 0) hx hb dX1_isFresh_30 (by decide) ?_
    exact W.zret (v := 0) hx hb hr (by decide) (fun t ht9 hW => ⟨⟨0, (), rfl, by simp [sFresh, bI, *], gBi ht9 (gfin hP (rfl))⟩, hS.F ht9⟩) hS.2.2 dX1_isFresh_31
  · skip
    refine lv_iload_n hx hb dX1_isFresh_9 rfl (lv_at hl 2 rfl) ?_
    refine lv_aload_n hx hb dX1_isFresh_10 rfl (lv_at hl 0 rfl) ?_
    refine va_get (D := G) (ci := 1) (v := .ref x5) (C := RX1) (T := TX1) (N := 4) hx hb hts hiRX1 hown hK hP 0 rfl rfl 3 (by decide) (hts (.fieldLink RX1 22 "NameAuction$Resolver" "takenOn" "[I") (by decide +kernel)) (fun _ h9 => h9) rfl dX1_isFresh_11 ?_
    refine lv_iload_n hx hb dX1_isFresh_14 rfl (lv_at hl 1 rfl) ?_
    refine giald (j := i) hx hb hK hP 4 0 rfl rfl (show (nI i : Int32) = nI i from rfl) (by omega) (by decide) dX1_isFresh_15 ?_
    refine lv_isub hx hb dX1_isFresh_16 ?_
    refine lv_aload_n hx hb dX1_isFresh_17 rfl (lv_at hl 0 rfl) ?_
    refine va_get (D := G) (ci := 1) (v := .ref x4) (C := RX1) (T := TX1) (N := 4) hx hb hts hiRX1 hown hK hP 0 rfl rfl 2 (by decide) (hts (.fieldLink RX1 19 "NameAuction$Resolver" "lifetimes" "[I") (by decide +kernel)) (fun _ h9 => h9) rfl dX1_isFresh_18 ?_
    refine lv_iload_n hx hb dX1_isFresh_21 rfl (lv_at hl 1 rfl) ?_
    refine giald (j := i) hx hb hK hP 3 0 rfl rfl (show (nI i : Int32) = nI i from rfl) (by omega) (by decide) dX1_isFresh_22 ?_
    refine lv_icmp_ge (tgt := 30) hx hb dX1_isFresh_23 (by decide) (fun c23 => ?_) (fun c23 => ?_)
    · skip
      refine lv_iconst (v := 0) hx hb dX1_isFresh_30 (by decide) ?_
      exact W.zret (v := 0) hx hb hr (by decide) (fun t ht9 hW => ⟨⟨0, (), rfl, by simp [sFresh, bI, *], gBi ht9 (gfin hP (rfl))⟩, hS.F ht9⟩) hS.2.2 dX1_isFresh_31
    · skip
      refine lv_iconst (v := 1) hx hb dX1_isFresh_26 (by decide) ?_
      refine lv_goto (tgt := 31) hx hb dX1_isFresh_27 (by decide) ?_
      exact W.zret (v := 1) hx hb hr (by decide) (fun t ht9 hW => ⟨⟨1, (), rfl, by simp [sFresh, bI, *], gBi ht9 (gfin hP (rfl))⟩, hS.F ht9⟩) hS.2.2 dX1_isFresh_31
abbrev PX1_keep (G : va_G) (T : Nat → ClassId) (x1 x2 x3 x4 x5 : Nat) (k f g h : Nat → Int32) (i : Nat) (p1 p2 p3 : Int32) (sz : Nat) : Array Value → State → Prop := gPc G T [.ref x1, .int (nI i), .int p1, .int p2, .int p3] (cR T x1 x2 x3 x4 x5 k f g h) sz
abbrev QX1_keep (G : va_G) (T : Nat → ClassId) (x1 x2 x3 x4 x5 : Nat) (k f g h : Nat → Int32) (i : Nat) (p1 p2 p3 : Int32) (sz : Nat) : Array Value → State → Outcome → State → Prop := va_Qv (fun _ : Unit => True) (gB G (cR T x1 x2 x3 x4 x5 (upd k i 1) (upd f i p1) (upd g i p2) (upd h i p3))) (va_A (cR T x1 x2 x3 x4 x5 k f g h) sz)
set_option maxHeartbeats 4000000 in
set_option maxRecDepth 100000 in
theorem kX1_keep (l : Launch) (G : va_G) (T : Nat → ClassId) (x1 x2 x3 x4 x5 : Nat) (k f g h : Nat → Int32) (i : Nat) (p1 p2 p3 : Int32) (sz : Nat) (hi : i < 16) : Met l yX1_keep wsX1_keep ({ frames := 0, cells := 0, slots := 0, locals := 0 } : Room) (PX1_keep G T x1 x2 x3 x4 x5 k f g h i p1 p2 p3 sz) (QX1_keep G T x1 x2 x3 x4 x5 k f g h i p1 p2 p3 sz) 0 0 (va_A (cR T x1 x2 x3 x4 x5 k f g h) sz) := by
  refine Met.ofW (cc := cX1_keep) (maxL := 5) (ret := none) (by decide) rfl ?_
  intro p e s m args below meth c s₁ B hml hv
  obtain ⟨rfl, hsz, hP, hK, hD0, hE⟩ := hv
  have hx := B.exec
  have hb := B.bytes
  have hr := B.returns
  have hts := atoms_spec (ws := wsX1_keep) B.pre
  have hown : s.vm.findClass RX1 = some m.cls := findClass_of_methodNamed B.named
  have hlocks := B.notSynchronized
  subst hsz
  have hD := hD0.self (sz := s.heap.size)
  have hA : ∀ q : Nat, s.heap.size ≤ q → (va_A (cR T x1 x2 x3 x4 x5 k f g h) s.heap.size) q := fun q h => Or.inr h
  have hS : va_S (va_A (cR T x1 x2 x3 x4 x5 k f g h) s.heap.size) s.heap s.heap [] := va_S.rf
  have hiRX1 : ∀ w ∈ u_ws RX1 TX1 4, w ∈ wsX1_keep := by decide +kernel
  have hl := lv_entry ([.ref x1, .int (nI i), .int p1, .int p2, .int p3]) (n := 5) (Nat.le_of_ble_eq_true rfl)
  rw [lg_entry_eq]
  generalize (lg_sl ([.ref x1, .int (nI i), .int p1, .int p2, .int p3]) ++ List.replicate (5 - (lg_sl ([.ref x1, .int (nI i), .int p1, .int p2, .int p3])).length) Slot.unset).toArray = ls at hl ⊢
  have hl : lv_has ls 5 [(0, .ref x1), (1, .int (nI i)), (2, .int p1), (3, .int p2), (4, .int p3)] := hl
  have hP : va_P G vwCl (cR T x1 x2 x3 x4 x5 k f g h) s.heap := hP
  refine lv_aload_n hx hb dX1_keep_0 rfl (lv_at hl 0 rfl) ?_
  refine va_get (D := G) (ci := 1) (v := .ref x2) (C := RX1) (T := TX1) (N := 4) hx hb hts hiRX1 hown hK hP 0 rfl rfl 0 (by decide) (hts (.fieldLink RX1 9 "NameAuction$Resolver" "kept" "[Z") (by decide +kernel)) (fun _ h9 => h9) rfl dX1_keep_1 ?_
  refine lv_iload_n hx hb dX1_keep_4 rfl (lv_at hl 1 rfl) ?_
  refine lv_iconst (v := 1) hx hb dX1_keep_5 (by decide) ?_
  refine gzast (j := i) hx hb hK hP hD hS 1 1 rfl rfl (show (nI i : Int32) = nI i from rfl) (by omega) (by decide) (by decide) dX1_keep_6 (fun H locs hP hD hS => ?_)
  have hP : va_P G vwCl (cR T x1 x2 x3 x4 x5 (upd k i 1) f g h) H := hP
  have hD : va_D (va_A (cR T x1 x2 x3 x4 x5 k f g h) s.heap.size) (cR T x1 x2 x3 x4 x5 (upd k i 1) f g h) := hD
  refine lv_aload_n hx hb dX1_keep_7 rfl (lv_at hl 0 rfl) ?_
  refine va_get (D := G) (ci := 1) (v := .ref x3) (C := RX1) (T := TX1) (N := 4) hx hb hts hiRX1 hown hK hP 0 rfl rfl 1 (by decide) (hts (.fieldLink RX1 15 "NameAuction$Resolver" "answers" "[I") (by decide +kernel)) (fun _ h9 => h9) rfl dX1_keep_8 ?_
  refine lv_iload_n hx hb dX1_keep_11 rfl (lv_at hl 1 rfl) ?_
  refine lv_iload_n hx hb dX1_keep_12 rfl (lv_at hl 2 rfl) ?_
  refine giast (j := i) hx hb hK hP hD hS 2 0 rfl rfl (show (nI i : Int32) = nI i from rfl) (by omega) (by decide) dX1_keep_13 (fun H locs hP hD hS => ?_)
  have hP : va_P G vwCl (cR T x1 x2 x3 x4 x5 (upd k i 1) (upd f i p1) g h) H := hP
  have hD : va_D (va_A (cR T x1 x2 x3 x4 x5 k f g h) s.heap.size) (cR T x1 x2 x3 x4 x5 (upd k i 1) (upd f i p1) g h) := hD
  refine lv_aload_n hx hb dX1_keep_14 rfl (lv_at hl 0 rfl) ?_
  refine va_get (D := G) (ci := 1) (v := .ref x4) (C := RX1) (T := TX1) (N := 4) hx hb hts hiRX1 hown hK hP 0 rfl rfl 2 (by decide) (hts (.fieldLink RX1 19 "NameAuction$Resolver" "lifetimes" "[I") (by decide +kernel)) (fun _ h9 => h9) rfl dX1_keep_15 ?_
  refine lv_iload_n hx hb dX1_keep_18 rfl (lv_at hl 1 rfl) ?_
  refine lv_iload_n hx hb dX1_keep_19 rfl (lv_at hl 3 rfl) ?_
  refine giast (j := i) hx hb hK hP hD hS 3 0 rfl rfl (show (nI i : Int32) = nI i from rfl) (by omega) (by decide) dX1_keep_20 (fun H locs hP hD hS => ?_)
  have hP : va_P G vwCl (cR T x1 x2 x3 x4 x5 (upd k i 1) (upd f i p1) (upd g i p2) h) H := hP
  have hD : va_D (va_A (cR T x1 x2 x3 x4 x5 k f g h) s.heap.size) (cR T x1 x2 x3 x4 x5 (upd k i 1) (upd f i p1) (upd g i p2) h) := hD
  refine lv_aload_n hx hb dX1_keep_21 rfl (lv_at hl 0 rfl) ?_
  refine va_get (D := G) (ci := 1) (v := .ref x5) (C := RX1) (T := TX1) (N := 4) hx hb hts hiRX1 hown hK hP 0 rfl rfl 3 (by decide) (hts (.fieldLink RX1 22 "NameAuction$Resolver" "takenOn" "[I") (by decide +kernel)) (fun _ h9 => h9) rfl dX1_keep_22 ?_
  refine lv_iload_n hx hb dX1_keep_25 rfl (lv_at hl 1 rfl) ?_
  refine lv_iload hx hb dX1_keep_26 (lv_at hl 4 rfl) ?_
  refine giast (j := i) hx hb hK hP hD hS 4 0 rfl rfl (show (nI i : Int32) = nI i from rfl) (by omega) (by decide) dX1_keep_28 (fun H locs hP hD hS => ?_)
  have hP : va_P G vwCl (cR T x1 x2 x3 x4 x5 (upd k i 1) (upd f i p1) (upd g i p2) (upd h i p3)) H := hP
  have hD : va_D (va_A (cR T x1 x2 x3 x4 x5 k f g h) s.heap.size) (cR T x1 x2 x3 x4 x5 (upd k i 1) (upd f i p1) (upd g i p2) (upd h i p3)) := hD
  exact W.vret hx hb hr (fun t ht9 hW => ⟨⟨(), rfl, trivial, gBi ht9 (gfin hP (rfl))⟩, hS.F ht9⟩) hS.2.2 dX1_keep_29
abbrev PX1_forgetAll (G : va_G) (T : Nat → ClassId) (x1 x2 x3 x4 x5 : Nat) (k f g h : Nat → Int32) (sz : Nat) : Array Value → State → Prop := gPc G T [.ref x1] (cR T x1 x2 x3 x4 x5 k f g h) sz
abbrev QX1_forgetAll (G : va_G) (T : Nat → ClassId) (x1 x2 x3 x4 x5 : Nat) (k f g h : Nat → Int32) (sz : Nat) : Array Value → State → Outcome → State → Prop := va_Qi (fun (r : Int32) (_ : Unit) => r = sKept k 16) (gB G (cR T x1 x2 x3 x4 x5 (fun _ => 0) f g h)) (va_A (cR T x1 x2 x3 x4 x5 k f g h) sz)
set_option maxHeartbeats 4000000 in
set_option maxRecDepth 100000 in
theorem kX1_forgetAll (l : Launch) (G : va_G) (T : Nat → ClassId) (x1 x2 x3 x4 x5 : Nat) (k f g h : Nat → Int32) (sz : Nat)  : Met l yX1_forgetAll wsX1_forgetAll ({ frames := 0, cells := 0, slots := 0, locals := 0 } : Room) (PX1_forgetAll G T x1 x2 x3 x4 x5 k f g h sz) (QX1_forgetAll G T x1 x2 x3 x4 x5 k f g h sz) 0 0 (va_A (cR T x1 x2 x3 x4 x5 k f g h) sz) := by
  refine Met.ofW (cc := cX1_forgetAll) (maxL := 3) (ret := (some .int)) (by decide) rfl ?_
  intro p e s m args below meth c s₁ B hml hv
  obtain ⟨rfl, hsz, hP, hK, hD0, hE⟩ := hv
  have hx := B.exec
  have hb := B.bytes
  have hr := B.returns
  have hts := atoms_spec (ws := wsX1_forgetAll) B.pre
  have hown : s.vm.findClass RX1 = some m.cls := findClass_of_methodNamed B.named
  have hlocks := B.notSynchronized
  subst hsz
  have hD := hD0.self (sz := s.heap.size)
  have hA : ∀ q : Nat, s.heap.size ≤ q → (va_A (cR T x1 x2 x3 x4 x5 k f g h) s.heap.size) q := fun q h => Or.inr h
  have hS : va_S (va_A (cR T x1 x2 x3 x4 x5 k f g h) s.heap.size) s.heap s.heap [] := va_S.rf
  have hiRX1 : ∀ w ∈ u_ws RX1 TX1 4, w ∈ wsX1_forgetAll := by decide +kernel
  have hl := lv_entry ([.ref x1]) (n := 3) (Nat.le_of_ble_eq_true rfl)
  rw [lg_entry_eq]
  generalize (lg_sl ([.ref x1]) ++ List.replicate (3 - (lg_sl ([.ref x1])).length) Slot.unset).toArray = ls at hl ⊢
  have hl : lv_has ls 3 [(0, .ref x1)] := hl
  have hP : va_P G vwCl (cR T x1 x2 x3 x4 x5 k f g h) s.heap := hP
  refine lv_iconst (v := 0) hx hb dX1_forgetAll_0 (by decide) ?_
  refine lv_istore_n (lv' := [(1, .int 0), (0, .ref x1)]) hx hb dX1_forgetAll_1 rfl hl (by decide) rfl (fun ls hl => ?_)
  refine lv_iconst (v := 0) hx hb dX1_forgetAll_2 (by decide) ?_
  refine lv_istore_n (lv' := [(2, .int 0), (1, .int 0), (0, .ref x1)]) hx hb dX1_forgetAll_3 rfl hl (by decide) rfl (fun ls hl => ?_)
  have J4 : ∀ n9 : Nat, ∀ (i : Nat) (H : Heap) (locs : List Loc) (ls : Array Slot), (i ≤ 16) → (17 ≤ i + n9) → va_P G vwCl (cR T x1 x2 x3 x4 x5 (fa_fill2 0 k i) f g h) H → va_D (va_A (cR T x1 x2 x3 x4 x5 k f g h) s.heap.size) (cR T x1 x2 x3 x4 x5 (fa_fill2 0 k i) f g h) → va_S (va_A (cR T x1 x2 x3 x4 x5 k f g h) s.heap.size) s.heap H locs → lv_has ls 3 [(0, .ref x1), (1, .int (sKept k i)), (2, .int (nI i))] → W p l e (headSpec wsX1_forgetAll ({ frames := 0, cells := 0, slots := 0, locals := 0 } : Room)).room s m ([.ref x1] : List Value).toArray below meth c H locs 0 0 (MQ below (QX1_forgetAll G T x1 x2 x3 x4 x5 k f g h s.heap.size) ([.ref x1] : List Value).toArray s 0 0 (va_A (cR T x1 x2 x3 x4 x5 k f g h) s.heap.size)) (F0 m 4 ls []) := by
    intro n9
    induction n9 with
    | zero => intro i H locs ls hi hm hP hD hS hl; exact absurd (hm) (by omega)
    | succ n9 ih4 =>
      intro i H locs ls hi hm hP hD hS hl
      refine lv_iload_n hx hb dX1_forgetAll_4 rfl (lv_at hl 2 rfl) ?_
      refine lv_bipush (v := 16) hx hb dX1_forgetAll_5 (by decide) ?_
      refine lv_icmp_ge (tgt := 40) hx hb dX1_forgetAll_7 (by decide) (fun c7 => ?_) (fun c7 => ?_)
      · skip
        have hge : i = 16 := by
          rcases Nat.lt_or_ge i 16 with q | q
          · exact absurd c7 (nI_ge (b := 16) q (by omega))
          · omega
        have hP := grow hP 1 rfl (fun _ => 0) (fun j hj => by simp only [fa_fill2]; rw [if_pos (by omega)])
        have hP : va_P G vwCl (cR T x1 x2 x3 x4 x5 (fun _ => 0) f g h) H := hP
        refine lv_iload_n hx hb dX1_forgetAll_40 rfl (lv_at hl 1 rfl) ?_
        exact W.iret (v := sKept k i) hx hb hr (fun t ht9 hW => ⟨⟨sKept k i, (), rfl, by rw [hge], gBi ht9 hP⟩, hS.F ht9⟩) hS.2.2 dX1_forgetAll_41
      · skip
        have hlt : i < 16 := by
          rcases Nat.lt_or_ge i 16 with q | q
          · exact q
          · exact absurd (show (16 : Int32) ≤ nI i from nI_le (a := 16) q (by omega)) c7
        have ek : fa_fill2 0 k i i = k i := by simp [fa_fill2]
        refine lv_iload_n hx hb dX1_forgetAll_10 rfl (lv_at hl 1 rfl) ?_
        refine lv_aload_n hx hb dX1_forgetAll_11 rfl (lv_at hl 0 rfl) ?_
        refine va_get (D := G) (ci := 1) (v := .ref x2) (C := RX1) (T := TX1) (N := 4) hx hb hts hiRX1 hown hK hP 0 rfl rfl 0 (by decide) (hts (.fieldLink RX1 9 "NameAuction$Resolver" "kept" "[Z") (by decide +kernel)) (fun _ h9 => h9) rfl dX1_forgetAll_12 ?_
        refine lv_iload_n hx hb dX1_forgetAll_15 rfl (lv_at hl 2 rfl) ?_
        refine gzald (j := i) hx hb hK hP 1 1 rfl rfl (show (nI i : Int32) = nI i from rfl) (by omega) (by decide) dX1_forgetAll_16 ?_
        refine lv_if_eq (tgt := 24) hx hb dX1_forgetAll_17 (by decide) (fun c17 => ?_) (fun c17 => ?_)
        · skip
          refine lv_iconst (v := 0) hx hb dX1_forgetAll_24 (by decide) ?_
          refine lv_iadd hx hb dX1_forgetAll_25 ?_
          refine gtop (y := sKept k (i + 1)) (by rw [ek] at c17; simp [sKept, c17]) ?_
          refine lv_istore_n (lv' := [(1, .int (sKept k (i + 1))), (0, .ref x1), (2, .int (nI i))]) hx hb dX1_forgetAll_26 rfl hl (by decide) rfl (fun ls hl => ?_)
          refine lv_aload_n hx hb dX1_forgetAll_27 rfl (lv_at hl 1 rfl) ?_
          refine va_get (D := G) (ci := 1) (v := .ref x2) (C := RX1) (T := TX1) (N := 4) hx hb hts hiRX1 hown hK hP 0 rfl rfl 0 (by decide) (hts (.fieldLink RX1 9 "NameAuction$Resolver" "kept" "[Z") (by decide +kernel)) (fun _ h9 => h9) rfl dX1_forgetAll_28 ?_
          refine lv_iload_n hx hb dX1_forgetAll_31 rfl (lv_at hl 2 rfl) ?_
          refine lv_iconst (v := 0) hx hb dX1_forgetAll_32 (by decide) ?_
          refine gzast (j := i) hx hb hK hP hD hS 1 1 rfl rfl (show (nI i : Int32) = nI i from rfl) (by omega) (by decide) (by decide) dX1_forgetAll_33 (fun H locs hP hD hS => ?_)
          have hP : va_P G vwCl (cR T x1 x2 x3 x4 x5 (upd (fa_fill2 0 k i) i 0) f g h) H := hP
          have hD : va_D (va_A (cR T x1 x2 x3 x4 x5 k f g h) s.heap.size) (cR T x1 x2 x3 x4 x5 (upd (fa_fill2 0 k i) i 0) f g h) := hD
          refine lv_iinc (v := nI (i + 1)) (lv' := [(2, .int (nI (i + 1))), (1, .int (sKept k (i + 1))), (0, .ref x1)]) hx hb dX1_forgetAll_34 hl (k := 2) rfl (by first | rfl | exact (nI_add i 1)) (by decide) rfl (fun ls hl => ?_)
          refine lv_goto (tgt := 4) hx hb dX1_forgetAll_37 (by decide) ?_
          exact ih4 (i + 1) _ _ _ (by omega) (by omega) (gfin hP (by rw [gfill_up])) (gfinD hD (by rw [gfill_up])) hS (lv_sub hl [2, 1, 0] rfl)
        · skip
          refine lv_iconst (v := 1) hx hb dX1_forgetAll_20 (by decide) ?_
          refine lv_goto (tgt := 25) hx hb dX1_forgetAll_21 (by decide) ?_
          refine lv_iadd hx hb dX1_forgetAll_25 ?_
          refine gtop (y := sKept k (i + 1)) (by rw [ek] at c17; simp [sKept, c17]) ?_
          refine lv_istore_n (lv' := [(1, .int (sKept k (i + 1))), (0, .ref x1), (2, .int (nI i))]) hx hb dX1_forgetAll_26 rfl hl (by decide) rfl (fun ls hl => ?_)
          refine lv_aload_n hx hb dX1_forgetAll_27 rfl (lv_at hl 1 rfl) ?_
          refine va_get (D := G) (ci := 1) (v := .ref x2) (C := RX1) (T := TX1) (N := 4) hx hb hts hiRX1 hown hK hP 0 rfl rfl 0 (by decide) (hts (.fieldLink RX1 9 "NameAuction$Resolver" "kept" "[Z") (by decide +kernel)) (fun _ h9 => h9) rfl dX1_forgetAll_28 ?_
          refine lv_iload_n hx hb dX1_forgetAll_31 rfl (lv_at hl 2 rfl) ?_
          refine lv_iconst (v := 0) hx hb dX1_forgetAll_32 (by decide) ?_
          refine gzast (j := i) hx hb hK hP hD hS 1 1 rfl rfl (show (nI i : Int32) = nI i from rfl) (by omega) (by decide) (by decide) dX1_forgetAll_33 (fun H locs hP hD hS => ?_)
          have hP : va_P G vwCl (cR T x1 x2 x3 x4 x5 (upd (fa_fill2 0 k i) i 0) f g h) H := hP
          have hD : va_D (va_A (cR T x1 x2 x3 x4 x5 k f g h) s.heap.size) (cR T x1 x2 x3 x4 x5 (upd (fa_fill2 0 k i) i 0) f g h) := hD
          refine lv_iinc (v := nI (i + 1)) (lv' := [(2, .int (nI (i + 1))), (1, .int (sKept k (i + 1))), (0, .ref x1)]) hx hb dX1_forgetAll_34 hl (k := 2) rfl (by first | rfl | exact (nI_add i 1)) (by decide) rfl (fun ls hl => ?_)
          refine lv_goto (tgt := 4) hx hb dX1_forgetAll_37 (by decide) ?_
          exact ih4 (i + 1) _ _ _ (by omega) (by omega) (gfin hP (by rw [gfill_up])) (gfinD hD (by rw [gfill_up])) hS (lv_sub hl [2, 1, 0] rfl)
  exact J4 17 0 _ _ _ (by omega) (by omega) (gfin hP (by rw [fa_fill2_0])) (gfinD hD (by rw [fa_fill2_0])) hS (lv_sub hl [2, 1, 0] rfl)
abbrev PX2_checkIndex (G : va_G) (T : Nat → ClassId) (p0 p1 : Int32) (sz : Nat) : Array Value → State → Prop := gPc G T [.int p0, .int p1] ([] : va_W) sz
abbrev QX2_checkIndex (G : va_G) (T : Nat → ClassId) (p0 p1 : Int32) (sz : Nat) : Array Value → State → Outcome → State → Prop := va_Qv (fun _ : Unit => okI p0 p1 = true) (gB G (([] : va_W))) (va_A ([] : va_W) sz)
abbrev XX2_checkIndex (G : va_G) (T : Nat → ClassId) (p0 p1 : Int32) (sz : Nat) : String → State → State → Prop := gX G (([] : va_W)) sz (fun E => E = eIO ∧ okI p0 p1 = false)
set_option maxHeartbeats 4000000 in
set_option maxRecDepth 100000 in
theorem kX2_checkIndex (l : Launch) (hl0 : l.stackTraces = false) (G : va_G) (T : Nat → ClassId) (p0 p1 : Int32) (sz : Nat)  : vx_Met l yX2_checkIndex wsX2_checkIndex ({ frames := 6, cells := 1, slots := 6, locals := 81 } : Room) (PX2_checkIndex G T p0 p1 sz) (QX2_checkIndex G T p0 p1 sz) (XX2_checkIndex G T p0 p1 sz) 1 6 (va_A ([] : va_W) sz) := by
  refine vx_ofW (cc := cX2_checkIndex) (maxL := 2) (ret := none) (by decide) rfl ?_
  intro p e s m args below meth c s₁ B hml ht hv
  obtain ⟨rfl, hsz, hP, hK, hD0, hE⟩ := hv
  have hx := B.exec
  have hb := B.bytes
  have hr := B.returns
  have hts := atoms_spec (ws := wsX2_checkIndex) B.pre
  have hown : s.vm.findClass RX2 = some m.cls := findClass_of_methodNamed B.named
  have hlocks := B.notSynchronized
  subst hsz
  have hD := hD0.self (sz := s.heap.size)
  have hA : ∀ q : Nat, s.heap.size ≤ q → (va_A ([] : va_W) s.heap.size) q := fun q h => Or.inr h
  have hS : va_S (va_A ([] : va_W) s.heap.size) s.heap s.heap [] := va_S.rf
  have hl := lv_entry ([.int p0, .int p1]) (n := 2) (Nat.le_of_ble_eq_true rfl)
  rw [lg_entry_eq]
  generalize (lg_sl ([.int p0, .int p1]) ++ List.replicate (2 - (lg_sl ([.int p0, .int p1])).length) Slot.unset).toArray = ls at hl ⊢
  have hl : lv_has ls 2 [(0, .int p0), (1, .int p1)] := hl
  have hP : va_P G vwCl (([] : va_W)) s.heap := hP
  refine lv_iload_n hx hb dX2_checkIndex_0 rfl (lv_at hl 0 rfl) ?_
  refine lv_if_lt (tgt := 9) hx hb dX2_checkIndex_1 (by decide) (fun c1 => ?_) (fun c1 => ?_)
  · skip
    have hat : ∀ w ∈ vx_at0 RX2 143 "java/lang/IndexOutOfBoundsException" ["java/lang/RuntimeException", "java/lang/Exception"], w.before ([.int p0, .int p1] : List Value).toArray s = true := vx_hat (fun w hw => hts w (by unfold wsX2_checkIndex; exact List.mem_cons_of_mem _ (List.mem_append_right _ hw))) (B := (vx_at0 RX2 143 "java/lang/IndexOutOfBoundsException" ["java/lang/RuntimeException", "java/lang/Exception"]).filter (fun w => !goodWord w)) (fun w hw => hw) (fun w hw => va_Nw.use ((show ∀ w ∈ (vx_at0 RX2 143 "java/lang/IndexOutOfBoundsException" ["java/lang/RuntimeException", "java/lang/Exception"]).filter (fun w => !goodWord w), w.onTables = true by decide +kernel) w hw) (hE.1 w ((show ∀ w ∈ (vx_at0 RX2 143 "java/lang/IndexOutOfBoundsException" ["java/lang/RuntimeException", "java/lang/Exception"]).filter (fun w => !goodWord w), w ∈ gEw by decide +kernel) w hw)))
    exact vx_throw0 hx hb hl0 (own := RX2) (cls := "java/lang/IndexOutOfBoundsException") (names := ["java/lang/RuntimeException", "java/lang/Exception"]) (ik := 141) (ic := 143) hown (by decide) (by decide) (hts (.classLink RX2 141 "java/lang/IndexOutOfBoundsException") (by decide +kernel)) (hts (.initialized "java/lang/IndexOutOfBoundsException") (by decide +kernel)) hat (by decide +kernel) hE.2.2.1 hE.2.2.2 hS (hl.1.trans hml.symm) dX2_checkIndex_9 dX2_checkIndex_12 dX2_checkIndex_13 dX2_checkIndex_16 (fun x hx9 => (ht x hx9).elim) (Nat.le_of_ble_eq_true rfl) (Nat.le_of_ble_eq_true rfl) (Nat.le_of_ble_eq_true rfl) (Nat.le_of_ble_eq_true rfl) hlocks (fun t _ h1 h2 => ⟨(), trivial, ⟨⟨rfl, by simp [okI, okR, c1]⟩, hP.kept (fun k q hq => h2 q.1 (hP k q hq).lt)⟩, ⟨Nat.le_trans hS.1 h1, fun q g1 g2 => (h2 q (Nat.lt_of_lt_of_le g1 hS.1)).trans (hS.2.1 q g1 g2)⟩⟩) hS.2.2 (Nat.le_of_ble_eq_true rfl) (Nat.le_of_ble_eq_true rfl)
  · skip
    refine lv_iload_n hx hb dX2_checkIndex_4 rfl (lv_at hl 0 rfl) ?_
    refine lv_iload_n hx hb dX2_checkIndex_5 rfl (lv_at hl 1 rfl) ?_
    refine lv_icmp_lt (tgt := 17) hx hb dX2_checkIndex_6 (by decide) (fun c6 => ?_) (fun c6 => ?_)
    · skip
      refine vx_ret ?_
      refine W.widen (k := 1) (n := 6) (Nat.le_of_ble_eq_true rfl) (Nat.le_of_ble_eq_true rfl) ?_
      exact W.vret hx hb hr (fun t ht9 hW => ⟨⟨(), rfl, (decide_eq_true ⟨c1, Int32.not_le.mpr c6⟩), gBi ht9 (gfin hP (rfl))⟩, hS.F ht9⟩) hS.2.2 dX2_checkIndex_17
    · skip
      have hat : ∀ w ∈ vx_at0 RX2 143 "java/lang/IndexOutOfBoundsException" ["java/lang/RuntimeException", "java/lang/Exception"], w.before ([.int p0, .int p1] : List Value).toArray s = true := vx_hat (fun w hw => hts w (by unfold wsX2_checkIndex; exact List.mem_cons_of_mem _ (List.mem_append_right _ hw))) (B := (vx_at0 RX2 143 "java/lang/IndexOutOfBoundsException" ["java/lang/RuntimeException", "java/lang/Exception"]).filter (fun w => !goodWord w)) (fun w hw => hw) (fun w hw => va_Nw.use ((show ∀ w ∈ (vx_at0 RX2 143 "java/lang/IndexOutOfBoundsException" ["java/lang/RuntimeException", "java/lang/Exception"]).filter (fun w => !goodWord w), w.onTables = true by decide +kernel) w hw) (hE.1 w ((show ∀ w ∈ (vx_at0 RX2 143 "java/lang/IndexOutOfBoundsException" ["java/lang/RuntimeException", "java/lang/Exception"]).filter (fun w => !goodWord w), w ∈ gEw by decide +kernel) w hw)))
      exact vx_throw0 hx hb hl0 (own := RX2) (cls := "java/lang/IndexOutOfBoundsException") (names := ["java/lang/RuntimeException", "java/lang/Exception"]) (ik := 141) (ic := 143) hown (by decide) (by decide) (hts (.classLink RX2 141 "java/lang/IndexOutOfBoundsException") (by decide +kernel)) (hts (.initialized "java/lang/IndexOutOfBoundsException") (by decide +kernel)) hat (by decide +kernel) hE.2.2.1 hE.2.2.2 hS (hl.1.trans hml.symm) dX2_checkIndex_9 dX2_checkIndex_12 dX2_checkIndex_13 dX2_checkIndex_16 (fun x hx9 => (ht x hx9).elim) (Nat.le_of_ble_eq_true rfl) (Nat.le_of_ble_eq_true rfl) (Nat.le_of_ble_eq_true rfl) (Nat.le_of_ble_eq_true rfl) hlocks (fun t _ h1 h2 => ⟨(), trivial, ⟨⟨rfl, by simp [okI, okR, c1, c6]⟩, hP.kept (fun k q hq => h2 q.1 (hP k q hq).lt)⟩, ⟨Nat.le_trans hS.1 h1, fun q g1 g2 => (h2 q (Nat.lt_of_lt_of_le g1 hS.1)).trans (hS.2.1 q g1 g2)⟩⟩) hS.2.2 (Nat.le_of_ble_eq_true rfl) (Nat.le_of_ble_eq_true rfl)
abbrev PX2_checkRange (G : va_G) (T : Nat → ClassId) (p0 p1 p2 : Int32) (sz : Nat) : Array Value → State → Prop := gPc G T [.int p0, .int p1, .int p2] ([] : va_W) sz
abbrev QX2_checkRange (G : va_G) (T : Nat → ClassId) (p0 p1 p2 : Int32) (sz : Nat) : Array Value → State → Outcome → State → Prop := va_Qv (fun _ : Unit => okR p0 p1 p2 = true) (gB G (([] : va_W))) (va_A ([] : va_W) sz)
abbrev XX2_checkRange (G : va_G) (T : Nat → ClassId) (p0 p1 p2 : Int32) (sz : Nat) : String → State → State → Prop := gX G (([] : va_W)) sz (fun E => E = eIA ∧ okR p0 p1 p2 = false)
set_option maxHeartbeats 4000000 in
set_option maxRecDepth 100000 in
theorem kX2_checkRange (l : Launch) (hl0 : l.stackTraces = false) (G : va_G) (T : Nat → ClassId) (p0 p1 p2 : Int32) (sz : Nat)  : vx_Met l yX2_checkRange wsX2_checkRange ({ frames := 6, cells := 1, slots := 6, locals := 81 } : Room) (PX2_checkRange G T p0 p1 p2 sz) (QX2_checkRange G T p0 p1 p2 sz) (XX2_checkRange G T p0 p1 p2 sz) 1 6 (va_A ([] : va_W) sz) := by
  refine vx_ofW (cc := cX2_checkRange) (maxL := 3) (ret := none) (by decide) rfl ?_
  intro p e s m args below meth c s₁ B hml ht hv
  obtain ⟨rfl, hsz, hP, hK, hD0, hE⟩ := hv
  have hx := B.exec
  have hb := B.bytes
  have hr := B.returns
  have hts := atoms_spec (ws := wsX2_checkRange) B.pre
  have hown : s.vm.findClass RX2 = some m.cls := findClass_of_methodNamed B.named
  have hlocks := B.notSynchronized
  subst hsz
  have hD := hD0.self (sz := s.heap.size)
  have hA : ∀ q : Nat, s.heap.size ≤ q → (va_A ([] : va_W) s.heap.size) q := fun q h => Or.inr h
  have hS : va_S (va_A ([] : va_W) s.heap.size) s.heap s.heap [] := va_S.rf
  have hl := lv_entry ([.int p0, .int p1, .int p2]) (n := 3) (Nat.le_of_ble_eq_true rfl)
  rw [lg_entry_eq]
  generalize (lg_sl ([.int p0, .int p1, .int p2]) ++ List.replicate (3 - (lg_sl ([.int p0, .int p1, .int p2])).length) Slot.unset).toArray = ls at hl ⊢
  have hl : lv_has ls 3 [(0, .int p0), (1, .int p1), (2, .int p2)] := hl
  have hP : va_P G vwCl (([] : va_W)) s.heap := hP
  refine lv_iload_n hx hb dX2_checkRange_0 rfl (lv_at hl 0 rfl) ?_
  refine lv_iload_n hx hb dX2_checkRange_1 rfl (lv_at hl 1 rfl) ?_
  refine lv_icmp_lt (tgt := 10) hx hb dX2_checkRange_2 (by decide) (fun c2 => ?_) (fun c2 => ?_)
  · skip
    have hat : ∀ w ∈ vx_at0 RX2 146 "java/lang/IllegalArgumentException" ["java/lang/RuntimeException", "java/lang/Exception"], w.before ([.int p0, .int p1, .int p2] : List Value).toArray s = true := vx_hat (fun w hw => hts w (by unfold wsX2_checkRange; exact List.mem_cons_of_mem _ (List.mem_append_right _ hw))) (B := (vx_at0 RX2 146 "java/lang/IllegalArgumentException" ["java/lang/RuntimeException", "java/lang/Exception"]).filter (fun w => !goodWord w)) (fun w hw => hw) (fun w hw => va_Nw.use ((show ∀ w ∈ (vx_at0 RX2 146 "java/lang/IllegalArgumentException" ["java/lang/RuntimeException", "java/lang/Exception"]).filter (fun w => !goodWord w), w.onTables = true by decide +kernel) w hw) (hE.1 w ((show ∀ w ∈ (vx_at0 RX2 146 "java/lang/IllegalArgumentException" ["java/lang/RuntimeException", "java/lang/Exception"]).filter (fun w => !goodWord w), w ∈ gEw by decide +kernel) w hw)))
    exact vx_throw0 hx hb hl0 (own := RX2) (cls := "java/lang/IllegalArgumentException") (names := ["java/lang/RuntimeException", "java/lang/Exception"]) (ik := 144) (ic := 146) hown (by decide) (by decide) (hts (.classLink RX2 144 "java/lang/IllegalArgumentException") (by decide +kernel)) (hts (.initialized "java/lang/IllegalArgumentException") (by decide +kernel)) hat (by decide +kernel) hE.2.2.1 hE.2.2.2 hS (hl.1.trans hml.symm) dX2_checkRange_10 dX2_checkRange_13 dX2_checkRange_14 dX2_checkRange_17 (fun x hx9 => (ht x hx9).elim) (Nat.le_of_ble_eq_true rfl) (Nat.le_of_ble_eq_true rfl) (Nat.le_of_ble_eq_true rfl) (Nat.le_of_ble_eq_true rfl) hlocks (fun t _ h1 h2 => ⟨(), trivial, ⟨⟨rfl, by simp [okI, okR, c2]⟩, hP.kept (fun k q hq => h2 q.1 (hP k q hq).lt)⟩, ⟨Nat.le_trans hS.1 h1, fun q g1 g2 => (h2 q (Nat.lt_of_lt_of_le g1 hS.1)).trans (hS.2.1 q g1 g2)⟩⟩) hS.2.2 (Nat.le_of_ble_eq_true rfl) (Nat.le_of_ble_eq_true rfl)
  · skip
    refine lv_iload_n hx hb dX2_checkRange_5 rfl (lv_at hl 0 rfl) ?_
    refine lv_iload_n hx hb dX2_checkRange_6 rfl (lv_at hl 2 rfl) ?_
    refine lv_icmp_le (tgt := 18) hx hb dX2_checkRange_7 (by decide) (fun c7 => ?_) (fun c7 => ?_)
    · skip
      refine vx_ret ?_
      refine W.widen (k := 1) (n := 6) (Nat.le_of_ble_eq_true rfl) (Nat.le_of_ble_eq_true rfl) ?_
      exact W.vret hx hb hr (fun t ht9 hW => ⟨⟨(), rfl, (decide_eq_true ⟨c2, Int32.not_lt.mpr c7⟩), gBi ht9 (gfin hP (rfl))⟩, hS.F ht9⟩) hS.2.2 dX2_checkRange_18
    · skip
      have hat : ∀ w ∈ vx_at0 RX2 146 "java/lang/IllegalArgumentException" ["java/lang/RuntimeException", "java/lang/Exception"], w.before ([.int p0, .int p1, .int p2] : List Value).toArray s = true := vx_hat (fun w hw => hts w (by unfold wsX2_checkRange; exact List.mem_cons_of_mem _ (List.mem_append_right _ hw))) (B := (vx_at0 RX2 146 "java/lang/IllegalArgumentException" ["java/lang/RuntimeException", "java/lang/Exception"]).filter (fun w => !goodWord w)) (fun w hw => hw) (fun w hw => va_Nw.use ((show ∀ w ∈ (vx_at0 RX2 146 "java/lang/IllegalArgumentException" ["java/lang/RuntimeException", "java/lang/Exception"]).filter (fun w => !goodWord w), w.onTables = true by decide +kernel) w hw) (hE.1 w ((show ∀ w ∈ (vx_at0 RX2 146 "java/lang/IllegalArgumentException" ["java/lang/RuntimeException", "java/lang/Exception"]).filter (fun w => !goodWord w), w ∈ gEw by decide +kernel) w hw)))
      exact vx_throw0 hx hb hl0 (own := RX2) (cls := "java/lang/IllegalArgumentException") (names := ["java/lang/RuntimeException", "java/lang/Exception"]) (ik := 144) (ic := 146) hown (by decide) (by decide) (hts (.classLink RX2 144 "java/lang/IllegalArgumentException") (by decide +kernel)) (hts (.initialized "java/lang/IllegalArgumentException") (by decide +kernel)) hat (by decide +kernel) hE.2.2.1 hE.2.2.2 hS (hl.1.trans hml.symm) dX2_checkRange_10 dX2_checkRange_13 dX2_checkRange_14 dX2_checkRange_17 (fun x hx9 => (ht x hx9).elim) (Nat.le_of_ble_eq_true rfl) (Nat.le_of_ble_eq_true rfl) (Nat.le_of_ble_eq_true rfl) (Nat.le_of_ble_eq_true rfl) hlocks (fun t _ h1 h2 => ⟨(), trivial, ⟨⟨rfl, by simp [okI, okR, c2, c7]⟩, hP.kept (fun k q hq => h2 q.1 (hP k q hq).lt)⟩, ⟨Nat.le_trans hS.1 h1, fun q g1 g2 => (h2 q (Nat.lt_of_lt_of_le g1 hS.1)).trans (hS.2.1 q g1 g2)⟩⟩) hS.2.2 (Nat.le_of_ble_eq_true rfl) (Nat.le_of_ble_eq_true rfl)
abbrev PX2_checkPossible (G : va_G) (T : Nat → ClassId) (p0 : Int32) (sz : Nat) : Array Value → State → Prop := gPc G T [.int p0] ([] : va_W) sz
abbrev QX2_checkPossible (G : va_G) (T : Nat → ClassId) (p0 : Int32) (sz : Nat) : Array Value → State → Outcome → State → Prop := va_Qv (fun _ : Unit => ¬ p0 = 0) (gB G (([] : va_W))) (va_A ([] : va_W) sz)
abbrev XX2_checkPossible (G : va_G) (T : Nat → ClassId) (p0 : Int32) (sz : Nat) : String → State → State → Prop := gX G (([] : va_W)) sz (fun E => E = eIS ∧ p0 = 0)
set_option maxHeartbeats 4000000 in
set_option maxRecDepth 100000 in
theorem kX2_checkPossible (l : Launch) (hl0 : l.stackTraces = false) (G : va_G) (T : Nat → ClassId) (p0 : Int32) (sz : Nat)  : vx_Met l yX2_checkPossible wsX2_checkPossible ({ frames := 6, cells := 1, slots := 6, locals := 81 } : Room) (PX2_checkPossible G T p0 sz) (QX2_checkPossible G T p0 sz) (XX2_checkPossible G T p0 sz) 1 6 (va_A ([] : va_W) sz) := by
  refine vx_ofW (cc := cX2_checkPossible) (maxL := 1) (ret := none) (by decide) rfl ?_
  intro p e s m args below meth c s₁ B hml ht hv
  obtain ⟨rfl, hsz, hP, hK, hD0, hE⟩ := hv
  have hx := B.exec
  have hb := B.bytes
  have hr := B.returns
  have hts := atoms_spec (ws := wsX2_checkPossible) B.pre
  have hown : s.vm.findClass RX2 = some m.cls := findClass_of_methodNamed B.named
  have hlocks := B.notSynchronized
  subst hsz
  have hD := hD0.self (sz := s.heap.size)
  have hA : ∀ q : Nat, s.heap.size ≤ q → (va_A ([] : va_W) s.heap.size) q := fun q h => Or.inr h
  have hS : va_S (va_A ([] : va_W) s.heap.size) s.heap s.heap [] := va_S.rf
  have hl := lv_entry ([.int p0]) (n := 1) (Nat.le_of_ble_eq_true rfl)
  rw [lg_entry_eq]
  generalize (lg_sl ([.int p0]) ++ List.replicate (1 - (lg_sl ([.int p0])).length) Slot.unset).toArray = ls at hl ⊢
  have hl : lv_has ls 1 [(0, .int p0)] := hl
  have hP : va_P G vwCl (([] : va_W)) s.heap := hP
  refine lv_iload_n hx hb dX2_checkPossible_0 rfl (lv_at hl 0 rfl) ?_
  refine lv_if_ne (tgt := 12) hx hb dX2_checkPossible_1 (by decide) (fun c1 => ?_) (fun c1 => ?_)
  · skip
    refine vx_ret ?_
    refine W.widen (k := 1) (n := 6) (Nat.le_of_ble_eq_true rfl) (Nat.le_of_ble_eq_true rfl) ?_
    exact W.vret hx hb hr (fun t ht9 hW => ⟨⟨(), rfl, (by simp [c1]), gBi ht9 (gfin hP (rfl))⟩, hS.F ht9⟩) hS.2.2 dX2_checkPossible_12
  · skip
    have hat : ∀ w ∈ vx_at0 RX2 149 "java/lang/IllegalStateException" ["java/lang/RuntimeException", "java/lang/Exception"], w.before ([.int p0] : List Value).toArray s = true := vx_hat (fun w hw => hts w (by unfold wsX2_checkPossible; exact List.mem_cons_of_mem _ (List.mem_append_right _ hw))) (B := (vx_at0 RX2 149 "java/lang/IllegalStateException" ["java/lang/RuntimeException", "java/lang/Exception"]).filter (fun w => !goodWord w)) (fun w hw => hw) (fun w hw => va_Nw.use ((show ∀ w ∈ (vx_at0 RX2 149 "java/lang/IllegalStateException" ["java/lang/RuntimeException", "java/lang/Exception"]).filter (fun w => !goodWord w), w.onTables = true by decide +kernel) w hw) (hE.1 w ((show ∀ w ∈ (vx_at0 RX2 149 "java/lang/IllegalStateException" ["java/lang/RuntimeException", "java/lang/Exception"]).filter (fun w => !goodWord w), w ∈ gEw by decide +kernel) w hw)))
    exact vx_throw0 hx hb hl0 (own := RX2) (cls := "java/lang/IllegalStateException") (names := ["java/lang/RuntimeException", "java/lang/Exception"]) (ik := 147) (ic := 149) hown (by decide) (by decide) (hts (.classLink RX2 147 "java/lang/IllegalStateException") (by decide +kernel)) (hts (.initialized "java/lang/IllegalStateException") (by decide +kernel)) hat (by decide +kernel) hE.2.2.1 hE.2.2.2 hS (hl.1.trans hml.symm) dX2_checkPossible_4 dX2_checkPossible_7 dX2_checkPossible_8 dX2_checkPossible_11 (fun x hx9 => (ht x hx9).elim) (Nat.le_of_ble_eq_true rfl) (Nat.le_of_ble_eq_true rfl) (Nat.le_of_ble_eq_true rfl) (Nat.le_of_ble_eq_true rfl) hlocks (fun t _ h1 h2 => ⟨(), trivial, ⟨⟨rfl, by simp [c1]⟩, hP.kept (fun k q hq => h2 q.1 (hP k q hq).lt)⟩, ⟨Nat.le_trans hS.1 h1, fun q g1 g2 => (h2 q (Nat.lt_of_lt_of_le g1 hS.1)).trans (hS.2.1 q g1 g2)⟩⟩) hS.2.2 (Nat.le_of_ble_eq_true rfl) (Nat.le_of_ble_eq_true rfl)
abbrev PX2_canPay (G : va_G) (T : Nat → ClassId) (na mo nm rs : Nat) (D f : Nat → Int32) (nA rA : Nat → Nat) (p0 p1 : Int32) (sz : Nat) : Array Value → State → Prop := gPc G T [.ref na, .int p0, .int p1] (cA T na mo nm rs D f nA rA) sz
abbrev QX2_canPay (G : va_G) (T : Nat → ClassId) (na mo nm rs : Nat) (D f : Nat → Int32) (nA rA : Nat → Nat) (p0 p1 : Int32) (sz : Nat) : Array Value → State → Outcome → State → Prop := va_Qi (fun (r : Int32) (_ : Unit) => r = sCan f p0 p1) (gB G (cA T na mo nm rs D f nA rA)) (va_A (cA T na mo nm rs D f nA rA) sz)
set_option maxHeartbeats 4000000 in
set_option maxRecDepth 100000 in
theorem kX2_canPay (l : Launch) (G : va_G) (T : Nat → ClassId) (na mo nm rs : Nat) (D f : Nat → Int32) (nA rA : Nat → Nat) (p0 p1 : Int32) (sz : Nat)  : Met l yX2_canPay wsX2_canPay ({ frames := 0, cells := 0, slots := 0, locals := 0 } : Room) (PX2_canPay G T na mo nm rs D f nA rA p0 p1 sz) (QX2_canPay G T na mo nm rs D f nA rA p0 p1 sz) 0 0 (va_A (cA T na mo nm rs D f nA rA) sz) := by
  refine Met.ofW (cc := cX2_canPay) (maxL := 3) (ret := (some .boolean)) (by decide) rfl ?_
  intro p e s m args below meth c s₁ B hml hv
  obtain ⟨rfl, hsz, hP, hK, hD0, hE⟩ := hv
  have hx := B.exec
  have hb := B.bytes
  have hr := B.returns
  have hts := atoms_spec (ws := wsX2_canPay) B.pre
  have hown : s.vm.findClass RX2 = some m.cls := findClass_of_methodNamed B.named
  have hlocks := B.notSynchronized
  subst hsz
  have hD := hD0.self (sz := s.heap.size)
  have hA : ∀ q : Nat, s.heap.size ≤ q → (va_A (cA T na mo nm rs D f nA rA) s.heap.size) q := fun q h => Or.inr h
  have hS : va_S (va_A (cA T na mo nm rs D f nA rA) s.heap.size) s.heap s.heap [] := va_S.rf
  have hiRX2 : ∀ w ∈ u_ws RX2 TX2 6, w ∈ wsX2_canPay := by decide +kernel
  have hl := lv_entry ([.ref na, .int p0, .int p1]) (n := 3) (Nat.le_of_ble_eq_true rfl)
  rw [lg_entry_eq]
  generalize (lg_sl ([.ref na, .int p0, .int p1]) ++ List.replicate (3 - (lg_sl ([.ref na, .int p0, .int p1])).length) Slot.unset).toArray = ls at hl ⊢
  have hl : lv_has ls 3 [(0, .ref na), (1, .int p0), (2, .int p1)] := hl
  have hP : va_P G vwCl (cA T na mo nm rs D f nA rA) s.heap := hP
  refine lv_iload_n hx hb dX2_canPay_0 rfl (lv_at hl 1 rfl) ?_
  refine lv_if_lt (tgt := 24) hx hb dX2_canPay_1 (by decide) (fun c1 => ?_) (fun c1 => ?_)
  · skip
    refine lv_iconst (v := 0) hx hb dX2_canPay_24 (by decide) ?_
    exact W.zret (v := 0) hx hb hr (by decide) (fun t ht9 hW => ⟨⟨0, (), rfl, by simp [sCan, bI, okI, *], gBi ht9 (gfin hP (rfl))⟩, hS.F ht9⟩) hS.2.2 dX2_canPay_25
  · skip
    refine lv_iload_n hx hb dX2_canPay_4 rfl (lv_at hl 1 rfl) ?_
    refine lv_bipush (v := 6) hx hb dX2_canPay_5 (by decide) ?_
    refine lv_icmp_ge (tgt := 24) hx hb dX2_canPay_7 (by decide) (fun c7 => ?_) (fun c7 => ?_)
    · skip
      refine lv_iconst (v := 0) hx hb dX2_canPay_24 (by decide) ?_
      exact W.zret (v := 0) hx hb hr (by decide) (fun t ht9 hW => ⟨⟨0, (), rfl, by simp [sCan, bI, okI, *], gBi ht9 (gfin hP (rfl))⟩, hS.F ht9⟩) hS.2.2 dX2_canPay_25
    · skip
      refine lv_aload_n hx hb dX2_canPay_10 rfl (lv_at hl 0 rfl) ?_
      refine va_get (D := G) (ci := 2) (v := .ref mo) (C := RX2) (T := TX2) (N := 6) hx hb hts hiRX2 hown hK hP 0 rfl rfl 0 (by decide) (hts (.fieldLink RX2 9 "NameAuction" "money" "[I") (by decide +kernel)) (fun _ h9 => h9) rfl dX2_canPay_11 ?_
      refine lv_iload_n hx hb dX2_canPay_14 rfl (lv_at hl 1 rfl) ?_
      refine giald (j := p0.toNatClampNeg) hx hb hK hP 1 0 rfl rfl (okI_nat (n := 6) (by decide) (decide_eq_true ⟨c1, c7⟩)).1 (okI_nat (n := 6) (by decide) (decide_eq_true ⟨c1, c7⟩)).2 (by decide) dX2_canPay_15 ?_
      refine lv_iload_n hx hb dX2_canPay_16 rfl (lv_at hl 2 rfl) ?_
      refine lv_icmp_lt (tgt := 24) hx hb dX2_canPay_17 (by decide) (fun c17 => ?_) (fun c17 => ?_)
      · skip
        refine lv_iconst (v := 0) hx hb dX2_canPay_24 (by decide) ?_
        exact W.zret (v := 0) hx hb hr (by decide) (fun t ht9 hW => ⟨⟨0, (), rfl, by simp [sCan, bI, okI, *], gBi ht9 (gfin hP (rfl))⟩, hS.F ht9⟩) hS.2.2 dX2_canPay_25
      · skip
        refine lv_iconst (v := 1) hx hb dX2_canPay_20 (by decide) ?_
        refine lv_goto (tgt := 25) hx hb dX2_canPay_21 (by decide) ?_
        exact W.zret (v := 1) hx hb hr (by decide) (fun t ht9 hW => ⟨⟨1, (), rfl, by simp [sCan, bI, okI, *], gBi ht9 (gfin hP (rfl))⟩, hS.F ht9⟩) hS.2.2 dX2_canPay_25
abbrev PX2_pay (G : va_G) (T : Nat → ClassId) (na mo nm rs : Nat) (D f : Nat → Int32) (nA rA : Nat → Nat) (p0 p1 : Int32) (sz : Nat) : Array Value → State → Prop := gPc G T [.ref na, .int p0, .int p1] (cA T na mo nm rs D f nA rA) sz
abbrev QX2_pay (G : va_G) (T : Nat → ClassId) (na mo nm rs : Nat) (D f : Nat → Int32) (nA rA : Nat → Nat) (p0 p1 : Int32) (sz : Nat) : Array Value → State → Outcome → State → Prop := va_Qv (fun _ : Unit => True) (gB G (cA T na mo nm rs (sPayD D f p0 p1) (sPayF f p0 p1) nA rA)) (va_A (cA T na mo nm rs D f nA rA) sz)
set_option maxHeartbeats 4000000 in
set_option maxRecDepth 100000 in
theorem kX2_pay (l : Launch) (G : va_G) (T : Nat → ClassId) (na mo nm rs : Nat) (D f : Nat → Int32) (nA rA : Nat → Nat) (p0 p1 : Int32) (sz : Nat)  : Met l yX2_pay wsX2_pay ({ frames := 1, cells := 0, slots := 0, locals := 22 } : Room) (PX2_pay G T na mo nm rs D f nA rA p0 p1 sz) (QX2_pay G T na mo nm rs D f nA rA p0 p1 sz) 0 0 (va_A (cA T na mo nm rs D f nA rA) sz) := by
  refine Met.ofW (cc := cX2_pay) (maxL := 3) (ret := none) (by decide) rfl ?_
  intro p e s m args below meth c s₁ B hml hv
  obtain ⟨rfl, hsz, hP, hK, hD0, hE⟩ := hv
  have hx := B.exec
  have hb := B.bytes
  have hr := B.returns
  have hts := atoms_spec (ws := wsX2_pay) B.pre
  have hown : s.vm.findClass RX2 = some m.cls := findClass_of_methodNamed B.named
  have hlocks := B.notSynchronized
  subst hsz
  have hD := hD0.self (sz := s.heap.size)
  have hA : ∀ q : Nat, s.heap.size ≤ q → (va_A (cA T na mo nm rs D f nA rA) s.heap.size) q := fun q h => Or.inr h
  have hS : va_S (va_A (cA T na mo nm rs D f nA rA) s.heap.size) s.heap s.heap [] := va_S.rf
  have hiRX2 : ∀ w ∈ u_ws RX2 TX2 6, w ∈ wsX2_pay := by decide +kernel
  have hl := lv_entry ([.ref na, .int p0, .int p1]) (n := 3) (Nat.le_of_ble_eq_true rfl)
  rw [lg_entry_eq]
  generalize (lg_sl ([.ref na, .int p0, .int p1]) ++ List.replicate (3 - (lg_sl ([.ref na, .int p0, .int p1])).length) Slot.unset).toArray = ls at hl ⊢
  have hl : lv_has ls 3 [(0, .ref na), (1, .int p0), (2, .int p1)] := hl
  have hP : va_P G vwCl (cA T na mo nm rs D f nA rA) s.heap := hP
  refine lv_aload_n hx hb dX2_pay_0 rfl (lv_at hl 0 rfl) ?_
  refine lv_iload_n hx hb dX2_pay_1 rfl (lv_at hl 1 rfl) ?_
  refine lv_iload_n hx hb dX2_pay_2 rfl (lv_at hl 2 rfl) ?_
  refine gci (va_runV (As := [.int p0, .int p1]) (rest := []) ⟨hx, hb, hml, hown, hts⟩ (kX2_canPay l G T na mo nm rs D f nA rA p0 p1 _) (cwV 2 hts gX2_pay_X2_canPay rfl rfl rfl (by decide +kernel) ⟨Nat.le_of_ble_eq_true rfl, Nat.le_of_ble_eq_true rfl⟩) ⟨gblind, va_recv hK hP (ci := 2) (q0 := 0) rfl rfl, gpre hE hK hP hD hS hA [0, 1, 2, 3] rfl rfl⟩ rfl rfl hl.1 rfl (lv_room (Nat.le_of_ble_eq_true rfl)) dX2_pay_3 ⟨Nat.le_of_ble_eq_true rfl, Nat.le_of_ble_eq_true rfl⟩) hP hD hS hA [0, 1, 2, 3] rfl rfl (fun r9 H locs hw hP hD hS => ?_)
  have hP : va_P G vwCl (cA T na mo nm rs D f nA rA) H := hP
  have hD : va_D (va_A (cA T na mo nm rs D f nA rA) s.heap.size) (cA T na mo nm rs D f nA rA) := hD
  subst hw
  refine lv_if_eq (tgt := 29) hx hb dX2_pay_6 (by decide) (fun c6 => ?_) (fun c6 => ?_)
  · skip
    have c9 : ¬ (okI p0 6 = true ∧ ¬ f p0.toNatClampNeg < p1) := by
      simp only [sCan, bI] at c6
      split at c6
      · exact absurd c6 (by decide)
      · rename_i q; exact fun z => q (by simpa using z)
    exact W.vret hx hb hr (fun t ht9 hW => ⟨⟨(), rfl, trivial, gBi ht9 (gfin hP (by first | rw [sPayD, sPayF, if_pos c9, if_pos c9] | rw [sPayD, sPayF, if_neg c9, if_neg c9]))⟩, hS.F ht9⟩) hS.2.2 dX2_pay_29
  · skip
    have c9 : okI p0 6 = true ∧ ¬ f p0.toNatClampNeg < p1 := by
      simp only [sCan, bI] at c6
      split at c6
      · rename_i q; simpa using q
      · exact absurd rfl c6
    have e0 := okI_nat (n := 6) (by decide) c9.1
    refine lv_aload_n hx hb dX2_pay_9 rfl (lv_at hl 0 rfl) ?_
    refine va_get (D := G) (ci := 2) (v := .ref mo) (C := RX2) (T := TX2) (N := 6) hx hb hts hiRX2 hown hK hP 0 rfl rfl 0 (by decide) (hts (.fieldLink RX2 9 "NameAuction" "money" "[I") (by decide +kernel)) (fun _ h9 => h9) rfl dX2_pay_10 ?_
    refine lv_iload_n hx hb dX2_pay_13 rfl (lv_at hl 1 rfl) ?_
    refine lv_dup2_11 hx hb dX2_pay_14 rfl rfl ?_
    refine giald (j := p0.toNatClampNeg) hx hb hK hP 1 0 rfl rfl e0.1 e0.2 (by decide) dX2_pay_15 ?_
    refine lv_iload_n hx hb dX2_pay_16 rfl (lv_at hl 2 rfl) ?_
    refine lv_isub hx hb dX2_pay_17 ?_
    refine giast (j := p0.toNatClampNeg) hx hb hK hP hD hS 1 0 rfl rfl e0.1 e0.2 (by decide) dX2_pay_18 (fun H locs hP hD hS => ?_)
    have hP : va_P G vwCl (cA T na mo nm rs D (upd f p0.toNatClampNeg ((f p0.toNatClampNeg) - p1)) nA rA) H := hP
    have hD : va_D (va_A (cA T na mo nm rs D f nA rA) s.heap.size) (cA T na mo nm rs D (upd f p0.toNatClampNeg ((f p0.toNatClampNeg) - p1)) nA rA) := hD
    refine lv_aload_n hx hb dX2_pay_19 rfl (lv_at hl 0 rfl) ?_
    refine lv_dup hx hb dX2_pay_20 rfl ?_
    refine va_get (D := G) (ci := 2) (v := .int (D 4)) (C := RX2) (T := TX2) (N := 6) hx hb hts hiRX2 hown hK hP 0 rfl rfl 4 (by decide) (hts (.fieldLink RX2 119 "NameAuction" "paid" "I") (by decide +kernel)) (fun _ h9 => h9) rfl dX2_pay_21 ?_
    refine lv_iload_n hx hb dX2_pay_24 rfl (lv_at hl 2 rfl) ?_
    refine lv_iadd hx hb dX2_pay_25 ?_
    refine va_put (D := G) (ci := 2) (v := .int ((D 4) + p1)) (ty := .int) (C := RX2) (T := TX2) (N := 6) hx hb hts hiRX2 tyX2 tyX2_ok nmX2 hown hK hP hD hS 0 rfl rfl 4 (by decide) (hts (.fieldLink RX2 119 "NameAuction" "paid" "I") (by decide +kernel)) (fun _ h9 => h9) rfl (by decide +kernel) rfl rfl (Nat.le_of_ble_eq_true rfl) dX2_pay_26 (fun H locs hP hD hS => ?_)
    have hP : va_P G vwCl (cA T na mo nm rs (upd D 4 ((D 4) + p1)) (upd f p0.toNatClampNeg ((f p0.toNatClampNeg) - p1)) nA rA) H := hP
    have hD : va_D (va_A (cA T na mo nm rs D f nA rA) s.heap.size) (cA T na mo nm rs (upd D 4 ((D 4) + p1)) (upd f p0.toNatClampNeg ((f p0.toNatClampNeg) - p1)) nA rA) := hD
    exact W.vret hx hb hr (fun t ht9 hW => ⟨⟨(), rfl, trivial, gBi ht9 (gfin hP (by first | rw [sPayD, sPayF, if_pos c9, if_pos c9] | rw [sPayD, sPayF, if_neg c9, if_neg c9]))⟩, hS.F ht9⟩) hS.2.2 dX2_pay_29
