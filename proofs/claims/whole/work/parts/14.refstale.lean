/-! THE REFERENCE: isStale -/
abbrev PX3_isStale (G : va_G) (T : Nat → ClassId) (x1 : Nat) (A : Nat → Nat) (I1 : Nat → Int32) (F : Nat → Nat → Int32) (q j : Nat) (p0 p1 : Int32) (sz : Nat) : Array Value → State → Prop := gPc G T [.ref x1, .int p0, .int p1] (cM T x1 A I1 F) sz
abbrev QX3_isStale (G : va_G) (T : Nat → ClassId) (x1 : Nat) (A : Nat → Nat) (I1 : Nat → Int32) (F : Nat → Nat → Int32) (q j : Nat) (p0 p1 : Int32) (sz : Nat) : Array Value → State → Outcome → State → Prop := va_Qi (fun (r : Int32) (_ : Unit) => r = if (kRN p0 p1) = 0 then mStale I1 F q j else 0) (gB G (cM T x1 A (if (kRN p0 p1) = 0 then upd I1 17 0 else upd I1 17 (w3 (kRN p0 p1))) (if (kRN p0 p1) = 0 then F else F))) (va_A (cM T x1 A I1 F) sz)
set_option maxHeartbeats 4000000 in
set_option maxRecDepth 100000 in
theorem kX3_isStale (l : Launch) (G : va_G) (T : Nat → ClassId) (x1 : Nat) (A : Nat → Nat) (I1 : Nat → Int32) (F : Nat → Nat → Int32) (q j : Nat) (p0 p1 : Int32) (sz : Nat) (hq : okI p0 3 = true → p0 = nI q ∧ q < 3) (hj : okI p1 16 = true → p1 = nI j ∧ j < 16) : Met l yX3_isStale wsX3_isStale ({ frames := 3, cells := 0, slots := 0, locals := 64 } : Room) (PX3_isStale G T x1 A I1 F q j p0 p1 sz) (QX3_isStale G T x1 A I1 F q j p0 p1 sz) 0 0 (va_A (cM T x1 A I1 F) sz) := by
  refine Met.ofW (cc := cX3_isStale) (maxL := 4) (ret := (some .boolean)) (by decide) rfl ?_
  intro p e s m args below meth c s₁ B hml hv
  obtain ⟨rfl, hsz, hP, hK, hD0, hE⟩ := hv
  have hx := B.exec
  have hb := B.bytes
  have hr := B.returns
  have hts := atoms_spec (ws := wsX3_isStale) B.pre
  have hown : s.vm.findClass RX3 = some m.cls := findClass_of_methodNamed B.named
  have hlocks := B.notSynchronized
  subst hsz
  have hD := hD0.self (sz := s.heap.size)
  have hA : ∀ q : Nat, s.heap.size ≤ q → (va_A (cM T x1 A I1 F) s.heap.size) q := fun q h => Or.inr h
  have hS : va_S (va_A (cM T x1 A I1 F) s.heap.size) s.heap s.heap [] := va_S.rf
  have hiRX3 : ∀ w ∈ u_ws RX3 TX3 18, w ∈ wsX3_isStale := by decide +kernel
  have hl := lv_entry ([.ref x1, .int p0, .int p1]) (n := 4) (Nat.le_of_ble_eq_true rfl)
  rw [lg_entry_eq]
  generalize (lg_sl ([.ref x1, .int p0, .int p1]) ++ List.replicate (4 - (lg_sl ([.ref x1, .int p0, .int p1])).length) Slot.unset).toArray = ls at hl ⊢
  have hl : lv_has ls 4 [(0, .ref x1), (1, .int p0), (2, .int p1)] := hl
  have hP : va_P G vwCl (cM T x1 A I1 F) s.heap := hP
  refine lv_bipush (v := 16) hx hb dX3_isStale_0 (by decide) ?_
  refine lv_iload_n hx hb dX3_isStale_2 rfl (lv_at hl 1 rfl) ?_
  refine lv_imul hx hb dX3_isStale_3 ?_
  refine lv_iload_n hx hb dX3_isStale_4 rfl (lv_at hl 2 rfl) ?_
  refine lv_iadd hx hb dX3_isStale_5 ?_
  refine lv_istore_n (lv' := [(3, .int ((16 * p0) + p1)), (0, .ref x1), (1, .int p0), (2, .int p1)]) hx hb dX3_isStale_6 rfl hl (by decide) rfl (fun ls hl => ?_)
  refine lv_aload_n hx hb dX3_isStale_7 rfl (lv_at hl 1 rfl) ?_
  refine lv_iload_n hx hb dX3_isStale_8 rfl (lv_at hl 2 rfl) ?_
  refine lv_iload_n hx hb dX3_isStale_9 rfl (lv_at hl 3 rfl) ?_
  refine gci (va_runS (As := [.int p0, .int p1]) (rest := [.ref x1]) ⟨hx, hb, hml, hown, hts⟩ (kX3_isPlace l G T p0 p1 _) (va_cwS 2 hts gX3_isStale_X3_isPlace rfl rfl rfl (by decide +kernel) ⟨Nat.le_of_ble_eq_true rfl, Nat.le_of_ble_eq_true rfl⟩) ⟨gblind, gpre hE hK hP hD hS hA [] rfl rfl⟩ rfl rfl hl.1 rfl (lv_room (Nat.le_of_ble_eq_true rfl)) dX3_isStale_10 ⟨Nat.le_of_ble_eq_true rfl, Nat.le_of_ble_eq_true rfl⟩) hP hD hS hA [] rfl rfl (fun r9 H locs hw hP hD hS => ?_)
  have hP : va_P G vwCl (cM T x1 A I1 F) H := hP
  have hD : va_D (va_A (cM T x1 A I1 F) s.heap.size) (cM T x1 A I1 F) := hD
  subst hw
  refine lv_if_eq (tgt := 20) hx hb dX3_isStale_13 (by decide) (fun c13 => ?_) (fun c13 => ?_)
  · skip
    have t13 : (okI p0 3 && okI p1 16) = false := bI_f c13
    refine lv_iconst (v := 1) hx hb dX3_isStale_20 (by decide) ?_
    refine gciT (X := ([] : va_W)) (va_runV (As := [.int 1]) (rest := []) ⟨hx, hb, hml, hown, hts⟩ (kX3_fails l G T x1 A I1 F 1 _) (cwV 1 hts gX3_isStale_X3_fails rfl rfl rfl (by decide +kernel) ⟨Nat.le_of_ble_eq_true rfl, Nat.le_of_ble_eq_true rfl⟩) ⟨gblind, va_recv hK hP (ci := 3) (q0 := 0) rfl rfl, gpreT (X := ([] : va_W)) hE hK hP hD hS hA⟩ rfl rfl hl.1 rfl (lv_room (Nat.le_of_ble_eq_true rfl)) dX3_isStale_21 ⟨Nat.le_of_ble_eq_true rfl, Nat.le_of_ble_eq_true rfl⟩) hP hD hS hA cM_fst (fun r9 H locs hw hP hD hS => ?_)
    have hP : va_P G vwCl (cM T x1 A (upd I1 17 1) F) H := hP
    have hD : va_D (va_A (cM T x1 A I1 F) s.heap.size) (cM T x1 A (upd I1 17 1) F) := hD
    subst hw
    refine gtop (y := 1) (by decide) ?_
    refine lv_if_ne (tgt := 53) hx hb dX3_isStale_24 (by decide) (fun c24 => ?_) (fun c24 => ?_)
    · skip
      refine lv_iconst (v := 0) hx hb dX3_isStale_53 (by decide) ?_
      exact W.zret (v := 0) hx hb hr (by decide) (fun t ht9 hW => ⟨⟨0, (), rfl, (if_neg (by simp [kRN, c24, t13])).symm, gBi ht9 (gfin hP (mfinF (by simp [kRN, c24, t13]) (congrArg (upd I1 17) (by simp [w3, kRN, c24, t13])) rfl))⟩, hS.F ht9⟩) hS.2.2 dX3_isStale_54
    · exact absurd c24 (by decide)
  · skip
    have t13 : (okI p0 3 && okI p1 16) = true := bI_t c13
    obtain ⟨u0, u1⟩ : okI p0 3 = true ∧ okI p1 16 = true := by simpa using t13
    have e0 := hq u0
    obtain ⟨e0a, e0b⟩ := e0
    rw [show Value.int p0 = Value.int (nI q) from congrArg Value.int e0a] at hl
    have e1 := hj u1
    obtain ⟨e1a, e1b⟩ := e1
    rw [show Value.int p1 = Value.int (nI j) from congrArg Value.int e1a] at hl
    rw [show Value.int ((16 * p0) + p1) = Value.int (nI (16 * q + j)) from by rw [e0a, e1a, show (16 : Int32) = nI 16 from rfl, pk_mul, nI_add]] at hl
    refine lv_iconst (v := 0) hx hb dX3_isStale_16 (by decide) ?_
    refine lv_goto (tgt := 21) hx hb dX3_isStale_17 (by decide) ?_
    refine gciT (X := ([] : va_W)) (va_runV (As := [.int 0]) (rest := []) ⟨hx, hb, hml, hown, hts⟩ (kX3_fails l G T x1 A I1 F 0 _) (cwV 1 hts gX3_isStale_X3_fails rfl rfl rfl (by decide +kernel) ⟨Nat.le_of_ble_eq_true rfl, Nat.le_of_ble_eq_true rfl⟩) ⟨gblind, va_recv hK hP (ci := 3) (q0 := 0) rfl rfl, gpreT (X := ([] : va_W)) hE hK hP hD hS hA⟩ rfl rfl hl.1 rfl (lv_room (Nat.le_of_ble_eq_true rfl)) dX3_isStale_21 ⟨Nat.le_of_ble_eq_true rfl, Nat.le_of_ble_eq_true rfl⟩) hP hD hS hA cM_fst (fun r9 H locs hw hP hD hS => ?_)
    have hP : va_P G vwCl (cM T x1 A (upd I1 17 0) F) H := hP
    have hD : va_D (va_A (cM T x1 A I1 F) s.heap.size) (cM T x1 A (upd I1 17 0) F) := hD
    subst hw
    refine gtop (y := 0) (by decide) ?_
    refine lv_if_ne (tgt := 53) hx hb dX3_isStale_24 (by decide) (fun c24 => ?_) (fun c24 => ?_)
    · exact absurd c24 (by decide)
    · skip
      refine lv_aload_n hx hb dX3_isStale_27 rfl (lv_at hl 1 rfl) ?_
      refine lv_iload_n hx hb dX3_isStale_28 rfl (lv_at hl 0 rfl) ?_
      refine gciT (X := ([] : va_W)) (va_runV (As := [.int (nI (16 * q + j))]) (rest := []) ⟨hx, hb, hml, hown, hts⟩ (kX3_isYoung l G T x1 A (upd I1 17 0) F (16 * q + j) _ (by omega)) (cwV 1 hts gX3_isStale_X3_isYoung rfl rfl rfl (by decide +kernel) ⟨Nat.le_of_ble_eq_true rfl, Nat.le_of_ble_eq_true rfl⟩) ⟨gblind, va_recv hK hP (ci := 3) (q0 := 0) rfl rfl, gpreT (X := ([] : va_W)) hE hK hP hD hS hA⟩ rfl rfl hl.1 rfl (lv_room (Nat.le_of_ble_eq_true rfl)) dX3_isStale_29 ⟨Nat.le_of_ble_eq_true rfl, Nat.le_of_ble_eq_true rfl⟩) hP hD hS hA cM_fst (fun r9 H locs hw hP hD hS => ?_)
      have hP : va_P G vwCl (cM T x1 A (upd I1 17 0) F) H := hP
      have hD : va_D (va_A (cM T x1 A I1 F) s.heap.size) (cM T x1 A (upd I1 17 0) F) := hD
      subst hw
      refine lv_if_eq (tgt := 53) hx hb dX3_isStale_32 (by decide) (fun c32 => ?_) (fun c32 => ?_)
      · skip
        have c33 : mYoung I1 F (16 * q + j) = 0 := c32
        refine lv_iconst (v := 0) hx hb dX3_isStale_53 (by decide) ?_
        exact W.zret (v := 0) hx hb hr (by decide) (fun t ht9 hW => ⟨⟨0, (), rfl, (show (0 : Int32) = mStale I1 F q j from by simp only [mStale]; simp [c24, c32, t13, c33]).trans (if_pos (show kRN p0 p1 = 0 by simp [kRN, c24, c32, t13, c33])).symm, gBi ht9 (gfin hP (mfinT (by simp [kRN, c24, c32, t13, c33]) rfl rfl))⟩, hS.F ht9⟩) hS.2.2 dX3_isStale_54
      · skip
        have c33 : ¬ mYoung I1 F (16 * q + j) = 0 := c32
        refine lv_aload_n hx hb dX3_isStale_35 rfl (lv_at hl 1 rfl) ?_
        refine va_get (D := G) (ci := 3) (v := .ref (A 15)) (C := RX3) (T := TX3) (N := 18) hx hb hts hiRX3 hown hK hP 0 rfl rfl 15 (by decide) (hts (.fieldLink RX3 46 "NameAuctionModel" "answer" "[I") (by decide +kernel)) (fun _ h9 => h9) rfl dX3_isStale_36 ?_
        refine lv_iload_n hx hb dX3_isStale_39 rfl (lv_at hl 0 rfl) ?_
        refine giald (j := (16 * q + j)) hx hb hK hP 13 0 rfl rfl (show (nI (16 * q + j) : Int32) = nI (16 * q + j) from rfl) (by omega) (by decide) dX3_isStale_40 ?_
        refine lv_aload_n hx hb dX3_isStale_41 rfl (lv_at hl 1 rfl) ?_
        refine lv_iload_n hx hb dX3_isStale_42 rfl (lv_at hl 3 rfl) ?_
        refine gciT (X := ([] : va_W)) (va_runV (As := [.int (nI j)]) (rest := [.int ((F 15) (16 * q + j))]) ⟨hx, hb, hml, hown, hts⟩ (kX3_answerOf l G T x1 A (upd I1 17 0) F j _ (by omega)) (cwV 1 hts gX3_isStale_X3_answerOf rfl rfl rfl (by decide +kernel) ⟨Nat.le_of_ble_eq_true rfl, Nat.le_of_ble_eq_true rfl⟩) ⟨gblind, va_recv hK hP (ci := 3) (q0 := 0) rfl rfl, gpreT (X := ([] : va_W)) hE hK hP hD hS hA⟩ rfl rfl hl.1 rfl (lv_room (Nat.le_of_ble_eq_true rfl)) dX3_isStale_43 ⟨Nat.le_of_ble_eq_true rfl, Nat.le_of_ble_eq_true rfl⟩) hP hD hS hA cM_fst (fun r9 H locs hw hP hD hS => ?_)
        have hP : va_P G vwCl (cM T x1 A (upd I1 17 0) F) H := hP
        have hD : va_D (va_A (cM T x1 A I1 F) s.heap.size) (cM T x1 A (upd I1 17 0) F) := hD
        subst hw
        refine lv_icmp_eq (tgt := 53) hx hb dX3_isStale_46 (by decide) (fun c46 => ?_) (fun c46 => ?_)
        · skip
          refine lv_iconst (v := 0) hx hb dX3_isStale_53 (by decide) ?_
          exact W.zret (v := 0) hx hb hr (by decide) (fun t ht9 hW => ⟨⟨0, (), rfl, (show (0 : Int32) = mStale I1 F q j from by simp only [mStale]; simp [c24, c32, c46, t13, c33]).trans (if_pos (show kRN p0 p1 = 0 by simp [kRN, c24, c32, c46, t13, c33])).symm, gBi ht9 (gfin hP (mfinT (by simp [kRN, c24, c32, c46, t13, c33]) rfl rfl))⟩, hS.F ht9⟩) hS.2.2 dX3_isStale_54
        · skip
          refine lv_iconst (v := 1) hx hb dX3_isStale_49 (by decide) ?_
          refine lv_goto (tgt := 54) hx hb dX3_isStale_50 (by decide) ?_
          exact W.zret (v := 1) hx hb hr (by decide) (fun t ht9 hW => ⟨⟨1, (), rfl, (show (1 : Int32) = mStale I1 F q j from by simp only [mStale]; simp [c24, c32, c46, t13, c33]).trans (if_pos (show kRN p0 p1 = 0 by simp [kRN, c24, c32, c46, t13, c33])).symm, gBi ht9 (gfin hP (mfinT (by simp [kRN, c24, c32, c46, t13, c33]) rfl rfl))⟩, hS.F ht9⟩) hS.2.2 dX3_isStale_54
