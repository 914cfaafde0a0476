/-! THE LAW'S METHODS: isRenewed -/
theorem sHeld_y {x : Int32} (h : x = 2 ∨ x = 3) : sHeld x = 1 := by
  rcases h with h | h <;> simp [sHeld, bI, h]
theorem sHeld_n {x : Int32} (h2 : ¬ x = 2) (h3 : ¬ x = 3) : sHeld x = 0 := by simp [sHeld, bI, h2, h3]
theorem okI_6n {o : Nat} (ho : o < 6) : okI (nI o) 6 = true := okI_nat9 (n := 6) (by omega) (by omega) ho
theorem sCan_n {mny : Nat → Int32} {o q y : Nat} (ho : o < 6) (hm : mny o = nI q) (hq : q < 2 ^ 31) (hy : y < 2 ^ 31) : sCan mny (nI o) (nI y) = if q < y then 0 else 1 := by
  rw [sCan, okI_6n ho, nI_clamp (by omega), hm, Bool.true_and]
  by_cases h : q < y
  · rw [if_pos h, decide_eq_false (fun z => z (nI_lt h hy))]; rfl
  · rw [if_neg h, decide_eq_true (nI_nlt (by omega) hq)]; rfl
theorem sPay_n {D mny : Nat → Int32} {o q y : Nat} (ho : o < 6) (hm : mny o = nI q) (hq : q < 2 ^ 31) (hy : y ≤ q) : sPayD D mny (nI o) (nI y) = upd D 4 (D 4 + nI y) ∧ sPayF mny (nI o) (nI y) = upd mny o (nI (q - y)) := by
  have hc : okI (nI o) 6 = true ∧ ¬ mny (nI o).toNatClampNeg < nI y := ⟨okI_6n ho, by rw [nI_clamp (by omega), hm]; exact nI_nlt hy hq⟩
  refine ⟨by rw [sPayD, if_pos hc], ?_⟩
  rw [sPayF, if_pos hc, nI_clamp (by omega), hm, pk_sub hy]
theorem nI_100 (x : Nat) : nI x * 100 = nI (100 * x) := (pk_mul x 100).trans (congrArg nI (Nat.mul_comm x 100))
theorem nI_20 (x : Nat) : nI x * 20 = nI (20 * x) := (pk_mul x 20).trans (congrArg nI (Nat.mul_comm x 20))
theorem kRenew_h {D mny N : Nat → Int32} {j x o e d q : Nat} (hj : j < 16) (hx : 1 ≤ x ∧ x ≤ 5) (h0 : N 0 = 2 ∨ N 0 = 3) (h1 : N 1 = nI o) (ho : o < 6) (h3 : N 3 = nI e) (hD : D 3 = nI d) (hm : mny o = nI q) (hq : q < 2 ^ 30) (hd : d < 2 ^ 30) (he : e < 2 ^ 30) : kRenew D mny N (nI j) (nI x) = if d + 600 < e + 100 * x then 3 else if q < 20 * x then 3 else 0 := by
  rw [kRenew_n (by omega) (by omega), if_pos hj, if_pos hx, sHeld_y h0, if_neg (by decide), hD, h3, h1, nI_100, nI_20, nI_add, show nI d + 600 = nI (d + 600) from nI_add d 600, sCan_n ho hm (by omega) (by omega)]
  by_cases a1 : d + 600 < e + 100 * x
  · rw [if_pos a1, if_pos (nI_lt a1 (by omega))]
  · rw [if_neg a1, if_neg (nI_nlt (by omega) (by omega))]
    by_cases a2 : q < 20 * x
    · rw [if_pos a2, if_pos a2, if_pos rfl]
    · rw [if_neg a2, if_neg a2, if_neg (by decide)]
theorem INV.renew {d a j x o e s p : Nat} {m : Nat → Nat} {D mny : Nat → Int32} {N f : Nat → Nat → Int32} {rk rf rg rh : Nat → Nat → Int32} {t c F G : Nat → Int32} (h : INV d a D mny N f rk rf rg rh t c F G) (hj : j < 16) (hx : 1 ≤ x ∧ x ≤ 5) (hs : s = 2 ∨ s = 3) (h0 : N j 0 = nI s) (h1 : N j 1 = nI o) (ho : o < 6) (h3 : N j 3 = nI e) (he1 : d + 20 < e + 10 * s) (hend : e + 100 * x ≤ d + 600) (hz : Z6 (f j)) (hp : D 4 = nI p) (hm : ∀ k, k < 6 → mny k = nI (m k)) (hsum : psum p m 6 = a) (ha : a < 2 ^ 30) (hpay : 20 * x ≤ m o) :
    INV d a (sPayD D mny (N j 1) (nI x * 20)) (sPayF mny (N j 1) (nI x * 20)) (updA N j (upd (upd (N j) 3 (N j 3 + nI x * 100)) 0 2)) f rk rf rg rh (upd (upd t j 2) (32 + j) (nI (e + 100 * x))) c F G := by
  obtain ⟨i1, i2, i3, i4, i5, i6, i7⟩ := id h
  obtain ⟨n1, n2, n3, n4, n5, n6, r, r1, r2⟩ := i5 j hj
  have hmo : m o < 2 ^ 31 := by have := psum_le (p := p) (m := m) ho; omega
  obtain ⟨y1, y2⟩ := sPay_n (D := D) ho (hm o ho) hmo hpay
  rw [h1, nI_20, nI_100, h3, nI_add, y1, y2]
  have hrec : ¬ sRec (N j) = 0 := by
    rcases hs with hs | hs <;> subst hs
    · rw [sRec_2 h0]; decide
    · rw [sRec_3 h0]; decide
  refine INV.one h rfl (MI.pay hp hm hsum ho hpay (by rw [upd_at, hp, nI_add]) (upd_at _ _ _) (fun k hk => upd_no hk)) rfl i4 rfl (fun k hk => updA_no hk) (fun k _ => rfl) (fun k hk hne => ⟨?_, ?_, ?_, rfl, rfl, rfl⟩) ?_ ?_
  · rw [upd_no (by omega), upd_no (by omega)]
  · rw [upd_no (by omega), upd_no (by omega)]
  · rw [upd_no (by omega), upd_no (by omega)]
  · rw [updA_at]
    exact NI.mkH (s := 2) (by omega) (by omega) ho (by omega) hend rfl h1 (show upd (upd (N j) 3 (nI (e + 100 * x))) 0 2 3 = nI (e + 100 * x) from rfl) hz
  · rw [updA_at]
    refine ⟨?_, ?_, ?_, fun z => n5 hrec, fun z => ?_, r, r1, r2⟩
    · rw [upd_no (by omega), upd_at]; rfl
    · rw [upd_no (by omega), upd_no (by omega)]; exact n3
    · rw [upd_at]
      have := sDay_H (N := upd (upd (N j) 3 (nI (e + 100 * x))) 0 2) (s := 2) (e := e + 100 * x) (by omega) (by omega) rfl rfl
      rw [this]
      congr 1
    · exact absurd (show (2 : Int32) = 5 from z) (by decide)
abbrev PL_isRenewed (G : va_G) (T : Nat → ClassId) (Ad : Nat → Nat) (AF : Nat → Nat → Nat) (D mny : Nat → Int32) (N f g : Nat → Nat → Int32) (rk rf rg rh : Nat → Nat → Int32) (ta ca fa ga : Nat → Int32) (j x d a : Nat) (sz : Nat) : Array Value → State → Prop := gPc G T [.ref (Ad 1), .ref (Ad 5), .ref (Ad 8), .int (nI j), .int (nI x)] (wW T Ad AF ta ca fa ga D mny N f g rk rf rg rh) sz
abbrev QL_isRenewed (G : va_G) (T : Nat → ClassId) (Ad : Nat → Nat) (AF : Nat → Nat → Nat) (D mny : Nat → Int32) (N f g : Nat → Nat → Int32) (rk rf rg rh : Nat → Nat → Int32) (ta ca fa ga : Nat → Int32) (j x d a : Nat) (sz : Nat) : Array Value → State → Outcome → State → Prop := va_Qi (fun (r : Int32) (u : UL) => r = 1 ∧ INVu d a u) (fun (u : UL) (w9 : State) => va_P G vwCl (wW T Ad AF u.2.2.2.2.2.2.2.2.2.1 u.2.2.2.2.2.2.2.2.2.2.1 u.2.2.2.2.2.2.2.2.2.2.2.1 u.2.2.2.2.2.2.2.2.2.2.2.2 u.1 u.2.1 u.2.2.1 u.2.2.2.1 u.2.2.2.2.1 u.2.2.2.2.2.1 u.2.2.2.2.2.2.1 u.2.2.2.2.2.2.2.1 u.2.2.2.2.2.2.2.2.1) w9.heap) (va_A (wW T Ad AF ta ca fa ga D mny N f g rk rf rg rh) sz)
set_option maxHeartbeats 4000000 in
set_option maxRecDepth 100000 in
theorem kL_isRenewed (l : Launch) (hl0 : l.stackTraces = false) (G : va_G) (T : Nat → ClassId) (Ad : Nat → Nat) (AF : Nat → Nat → Nat) (D mny : Nat → Int32) (N f g : Nat → Nat → Int32) (rk rf rg rh : Nat → Nat → Int32) (ta ca fa ga : Nat → Int32) (j x d a : Nat) (sz : Nat) (hI : INV d a D mny N f rk rf rg rh ta ca fa ga) (hd : d < 2 ^ 20) (ha : a < 2 ^ 20) (hnj : j < 4 ∨ j = 16) (hx0 : x ≤ 6) : Met l yL_isRenewed wsL_isRenewed ({ frames := 9, cells := 6, slots := 36, locals := 153 } : Room) (PL_isRenewed G T Ad AF D mny N f g rk rf rg rh ta ca fa ga j x d a sz) (QL_isRenewed G T Ad AF D mny N f g rk rf rg rh ta ca fa ga j x d a sz) 6 36 (va_A (wW T Ad AF ta ca fa ga D mny N f g rk rf rg rh) sz) := by
  refine Met.ofW (cc := cL_isRenewed) (maxL := 11) (ret := (some .boolean)) (by decide) rfl ?_
  intro p e s m args below meth c s₁ B hml hv
  obtain ⟨rfl, hsz, hP, hK, hD0, hE⟩ := hv
  have hx := B.exec
  have hb := B.bytes
  have hr := B.returns
  have hts := atoms_spec (ws := wsL_isRenewed) B.pre
  have hown : s.vm.findClass RL = some m.cls := findClass_of_methodNamed B.named
  have hlocks := B.notSynchronized
  subst hsz
  have hD := hD0.self (sz := s.heap.size)
  have hA : ∀ q : Nat, s.heap.size ≤ q → (va_A (wW T Ad AF ta ca fa ga D mny N f g rk rf rg rh) s.heap.size) q := fun q h => Or.inr h
  have hS : va_S (va_A (wW T Ad AF ta ca fa ga D mny N f g rk rf rg rh) s.heap.size) s.heap s.heap [] := va_S.rf
  have hl := lv_entry ([.ref (Ad 1), .ref (Ad 5), .ref (Ad 8), .int (nI j), .int (nI x)]) (n := 11) (Nat.le_of_ble_eq_true rfl)
  rw [lg_entry_eq]
  generalize (lg_sl ([.ref (Ad 1), .ref (Ad 5), .ref (Ad 8), .int (nI j), .int (nI x)]) ++ List.replicate (11 - (lg_sl ([.ref (Ad 1), .ref (Ad 5), .ref (Ad 8), .int (nI j), .int (nI x)])).length) Slot.unset).toArray = ls at hl ⊢
  have hl : lv_has ls 11 [(0, .ref (Ad 1)), (1, .ref (Ad 5)), (2, .ref (Ad 8)), (3, .int (nI j)), (4, .int (nI x))] := hl
  obtain ⟨i1, i2, ⟨m9, p9, j1, j2, j3⟩, i4, i5, i6, i7⟩ := id hI
  have hp9 : p9 < 2 ^ 20 := Nat.lt_of_le_of_lt psum_p (by rw [j3]; exact ha)
  have hm9 : ∀ k, k < 6 → m9 k < 2 ^ 20 := fun k hk => by have := psum_le (p := p9) (m := m9) hk; omega
  have hP : va_P G vwCl (wW T Ad AF ta ca fa ga D mny N f g rk rf rg rh) s.heap := hP
  refine lv_iload_n hx hb dL_isRenewed_0 rfl (lv_at hl 3 rfl) ?_
  refine lv_bipush (v := 16) hx hb dL_isRenewed_1 (by decide) ?_
  refine lv_icmp_ge (tgt := 10) hx hb dL_isRenewed_3 (by decide) (fun c3 => ?_) (fun c3 => ?_)
  · skip
    have hj9 : 16 ≤ j := Nat.not_lt.mp (fun q9 => nI_ge (b := 16) q9 (by omega) c3)
    refine lv_iconst (v := 0) hx hb dL_isRenewed_10 (by decide) ?_
    refine lv_istore (lv' := [(5, .int 0), (0, .ref (Ad 1)), (1, .ref (Ad 5)), (2, .ref (Ad 8)), (3, .int (nI j)), (4, .int (nI x))]) hx hb dL_isRenewed_11 hl (by decide) rfl (fun ls hl => ?_)
    refine lv_iload hx hb dL_isRenewed_13 (lv_at hl 5 rfl) ?_
    refine lv_if_le (tgt := 29) hx hb dL_isRenewed_15 (by decide) (fun c15 => ?_) (fun c15 => ?_)
    · skip
      have hx9 : x ≤ 0 := Nat.not_lt.mp (fun q9 => nI_ge (a := 0) q9 (by omega) c15)
      refine lv_iconst (v := 0) hx hb dL_isRenewed_29 (by decide) ?_
      refine lv_istore (lv' := [(6, .int 0), (5, .int 0), (0, .ref (Ad 1)), (1, .ref (Ad 5)), (2, .ref (Ad 8)), (3, .int (nI j)), (4, .int (nI x))]) hx hb dL_isRenewed_30 hl (by decide) rfl (fun ls hl => ?_)
      refine lv_iload hx hb dL_isRenewed_32 (lv_at hl 1 rfl) ?_
      refine lv_if_eq (tgt := 56) hx hb dL_isRenewed_34 (by decide) (fun c34 => ?_) (fun c34 => ?_)
      · skip
        refine lv_aload_n hx hb dL_isRenewed_56 rfl (lv_at hl 2 rfl) ?_
        refine lv_iconst (v := 2) hx hb dL_isRenewed_57 (by decide) ?_
        refine lv_iload_n hx hb dL_isRenewed_58 rfl (lv_at hl 5 rfl) ?_
        refine lv_iload hx hb dL_isRenewed_59 (lv_at hl 6 rfl) ?_
        refine lv_iconst (v := 0) hx hb dL_isRenewed_61 (by decide) ?_
        refine gciT (X := wX4 T Ad ta ca fa ga) (vx_runSW (As := [.ref (Ad 1), .int 2, .int (nI j), .int (nI x), .int 0]) (rest := []) ⟨hx, hb, hml, hown, hts⟩ (cL_does_2_noc l hl0 G T Ad AF D mny N f g rk rf rg rh (j % 16) (nI j) (nI x) 0 _ (Nat.mod_lt _ (by decide)) (ix16 (by omega)) (fun h9 => absurd (h9.symm.trans (show kRenew D mny (N (j % 16)) (nI j) (nI x) = 1 by rw [kRenew_n (by omega) (by omega), if_neg (by omega)])) (by decide))) (vx_cwSW 5 hts gL_isRenewed_L_does rfl rfl rfl (by decide +kernel) ⟨Nat.le_of_ble_eq_true rfl, Nat.le_of_ble_eq_true rfl⟩) ⟨gblind, gpreT (X := wX4 T Ad ta ca fa ga) hE hK hP hD hS hA⟩ rfl rfl hl.1 rfl (lv_room (Nat.le_of_ble_eq_true rfl)) dL_isRenewed_62 ⟨Nat.le_of_ble_eq_true rfl, Nat.le_of_ble_eq_true rfl⟩) hP hD hS hA wC_fst (fun r9 H locs hw hP hD hS => ?_)
        have hP : va_P G vwCl (wW T Ad AF ta ca fa ga D mny N f g rk rf rg rh) H := hP
        have hD : va_D (va_A (wW T Ad AF ta ca fa ga D mny N f g rk rf rg rh) s.heap.size) (wW T Ad AF ta ca fa ga D mny N f g rk rf rg rh) := hD
        subst hw
        refine gtop (y := (-30)) (wD_30 (show kRenew D mny (N (j % 16)) (nI j) (nI x) = 1 by rw [kRenew_n (by omega) (by omega), if_neg (by omega)])) ?_
        refine lv_iload hx hb dL_isRenewed_65 (lv_at hl 1 rfl) ?_
        refine lv_if_ne (tgt := 75) hx hb dL_isRenewed_67 (by decide) (fun c67 => ?_) (fun c67 => ?_)
        · exact absurd c67 (by decide)
        · skip
          refine lv_bipush (v := (-30)) hx hb dL_isRenewed_70 (by decide) ?_
          refine lv_goto (tgt := 87) hx hb dL_isRenewed_72 (by decide) ?_
          refine lv_icmp_ne (tgt := 94) hx hb dL_isRenewed_87 (by decide) (fun c87 => ?_) (fun c87 => ?_)
          · exact absurd c87 (by decide)
          · skip
            refine lv_iconst (v := 1) hx hb dL_isRenewed_90 (by decide) ?_
            refine lv_goto (tgt := 95) hx hb dL_isRenewed_91 (by decide) ?_
            refine W.widen (k := 6) (n := 36) (Nat.le_of_ble_eq_true rfl) (Nat.le_of_ble_eq_true rfl) ?_
            exact W.zret (v := 1) hx hb hr (by decide) (fun w9 ht9 hW => ⟨⟨1, (D, mny, N, f, g, rk, rf, rg, rh, ta, ca, fa, ga), rfl, ⟨rfl, hI⟩, gBi ht9 (gfin hP (rfl))⟩, hS.F ht9⟩) hS.2.2 dL_isRenewed_95
      · exact absurd c34 (by decide)
    · skip
      have hx9 : 0 < x := Nat.not_le.mp (fun q9 => c15 (nI_le (b := 0) q9 (by omega)))
      refine lv_iload hx hb dL_isRenewed_18 (lv_at hl 5 rfl) ?_
      refine lv_bipush (v := 6) hx hb dL_isRenewed_20 (by decide) ?_
      refine lv_icmp_ge (tgt := 29) hx hb dL_isRenewed_22 (by decide) (fun c22 => ?_) (fun c22 => ?_)
      · skip
        have hx8 : 6 ≤ x := Nat.not_lt.mp (fun q9 => nI_ge (b := 6) q9 (by omega) c22)
        refine lv_iconst (v := 0) hx hb dL_isRenewed_29 (by decide) ?_
        refine lv_istore (lv' := [(6, .int 0), (5, .int 0), (0, .ref (Ad 1)), (1, .ref (Ad 5)), (2, .ref (Ad 8)), (3, .int (nI j)), (4, .int (nI x))]) hx hb dL_isRenewed_30 hl (by decide) rfl (fun ls hl => ?_)
        refine lv_iload hx hb dL_isRenewed_32 (lv_at hl 1 rfl) ?_
        refine lv_if_eq (tgt := 56) hx hb dL_isRenewed_34 (by decide) (fun c34 => ?_) (fun c34 => ?_)
        · skip
          refine lv_aload_n hx hb dL_isRenewed_56 rfl (lv_at hl 2 rfl) ?_
          refine lv_iconst (v := 2) hx hb dL_isRenewed_57 (by decide) ?_
          refine lv_iload_n hx hb dL_isRenewed_58 rfl (lv_at hl 5 rfl) ?_
          refine lv_iload hx hb dL_isRenewed_59 (lv_at hl 6 rfl) ?_
          refine lv_iconst (v := 0) hx hb dL_isRenewed_61 (by decide) ?_
          refine gciT (X := wX4 T Ad ta ca fa ga) (vx_runSW (As := [.ref (Ad 1), .int 2, .int (nI j), .int (nI x), .int 0]) (rest := []) ⟨hx, hb, hml, hown, hts⟩ (cL_does_2_noc l hl0 G T Ad AF D mny N f g rk rf rg rh (j % 16) (nI j) (nI x) 0 _ (Nat.mod_lt _ (by decide)) (ix16 (by omega)) (fun h9 => absurd (h9.symm.trans (show kRenew D mny (N (j % 16)) (nI j) (nI x) = 1 by rw [kRenew_n (by omega) (by omega), if_neg (by omega)])) (by decide))) (vx_cwSW 5 hts gL_isRenewed_L_does rfl rfl rfl (by decide +kernel) ⟨Nat.le_of_ble_eq_true rfl, Nat.le_of_ble_eq_true rfl⟩) ⟨gblind, gpreT (X := wX4 T Ad ta ca fa ga) hE hK hP hD hS hA⟩ rfl rfl hl.1 rfl (lv_room (Nat.le_of_ble_eq_true rfl)) dL_isRenewed_62 ⟨Nat.le_of_ble_eq_true rfl, Nat.le_of_ble_eq_true rfl⟩) hP hD hS hA wC_fst (fun r9 H locs hw hP hD hS => ?_)
          have hP : va_P G vwCl (wW T Ad AF ta ca fa ga D mny N f g rk rf rg rh) H := hP
          have hD : va_D (va_A (wW T Ad AF ta ca fa ga D mny N f g rk rf rg rh) s.heap.size) (wW T Ad AF ta ca fa ga D mny N f g rk rf rg rh) := hD
          subst hw
          refine gtop (y := (-30)) (wD_30 (show kRenew D mny (N (j % 16)) (nI j) (nI x) = 1 by rw [kRenew_n (by omega) (by omega), if_neg (by omega)])) ?_
          refine lv_iload hx hb dL_isRenewed_65 (lv_at hl 1 rfl) ?_
          refine lv_if_ne (tgt := 75) hx hb dL_isRenewed_67 (by decide) (fun c67 => ?_) (fun c67 => ?_)
          · exact absurd c67 (by decide)
          · skip
            refine lv_bipush (v := (-30)) hx hb dL_isRenewed_70 (by decide) ?_
            refine lv_goto (tgt := 87) hx hb dL_isRenewed_72 (by decide) ?_
            refine lv_icmp_ne (tgt := 94) hx hb dL_isRenewed_87 (by decide) (fun c87 => ?_) (fun c87 => ?_)
            · exact absurd c87 (by decide)
            · skip
              refine lv_iconst (v := 1) hx hb dL_isRenewed_90 (by decide) ?_
              refine lv_goto (tgt := 95) hx hb dL_isRenewed_91 (by decide) ?_
              refine W.widen (k := 6) (n := 36) (Nat.le_of_ble_eq_true rfl) (Nat.le_of_ble_eq_true rfl) ?_
              exact W.zret (v := 1) hx hb hr (by decide) (fun w9 ht9 hW => ⟨⟨1, (D, mny, N, f, g, rk, rf, rg, rh, ta, ca, fa, ga), rfl, ⟨rfl, hI⟩, gBi ht9 (gfin hP (rfl))⟩, hS.F ht9⟩) hS.2.2 dL_isRenewed_95
        · exact absurd c34 (by decide)
      · skip
        have hx8 : x < 6 := Nat.not_le.mp (fun q9 => c22 (nI_le (a := 6) q9 (by omega)))
        refine lv_iconst (v := 1) hx hb dL_isRenewed_25 (by decide) ?_
        refine lv_goto (tgt := 30) hx hb dL_isRenewed_26 (by decide) ?_
        refine lv_istore (lv' := [(6, .int 1), (5, .int 0), (0, .ref (Ad 1)), (1, .ref (Ad 5)), (2, .ref (Ad 8)), (3, .int (nI j)), (4, .int (nI x))]) hx hb dL_isRenewed_30 hl (by decide) rfl (fun ls hl => ?_)
        refine lv_iload hx hb dL_isRenewed_32 (lv_at hl 1 rfl) ?_
        refine lv_if_eq (tgt := 56) hx hb dL_isRenewed_34 (by decide) (fun c34 => ?_) (fun c34 => ?_)
        · skip
          refine lv_aload_n hx hb dL_isRenewed_56 rfl (lv_at hl 2 rfl) ?_
          refine lv_iconst (v := 2) hx hb dL_isRenewed_57 (by decide) ?_
          refine lv_iload_n hx hb dL_isRenewed_58 rfl (lv_at hl 5 rfl) ?_
          refine lv_iload hx hb dL_isRenewed_59 (lv_at hl 6 rfl) ?_
          refine lv_iconst (v := 0) hx hb dL_isRenewed_61 (by decide) ?_
          refine gciT (X := wX4 T Ad ta ca fa ga) (vx_runSW (As := [.ref (Ad 1), .int 2, .int (nI j), .int (nI x), .int 0]) (rest := []) ⟨hx, hb, hml, hown, hts⟩ (cL_does_2_noc l hl0 G T Ad AF D mny N f g rk rf rg rh (j % 16) (nI j) (nI x) 0 _ (Nat.mod_lt _ (by decide)) (ix16 (by omega)) (fun h9 => absurd (h9.symm.trans (show kRenew D mny (N (j % 16)) (nI j) (nI x) = 1 by rw [kRenew_n (by omega) (by omega), if_neg (by omega)])) (by decide))) (vx_cwSW 5 hts gL_isRenewed_L_does rfl rfl rfl (by decide +kernel) ⟨Nat.le_of_ble_eq_true rfl, Nat.le_of_ble_eq_true rfl⟩) ⟨gblind, gpreT (X := wX4 T Ad ta ca fa ga) hE hK hP hD hS hA⟩ rfl rfl hl.1 rfl (lv_room (Nat.le_of_ble_eq_true rfl)) dL_isRenewed_62 ⟨Nat.le_of_ble_eq_true rfl, Nat.le_of_ble_eq_true rfl⟩) hP hD hS hA wC_fst (fun r9 H locs hw hP hD hS => ?_)
          have hP : va_P G vwCl (wW T Ad AF ta ca fa ga D mny N f g rk rf rg rh) H := hP
          have hD : va_D (va_A (wW T Ad AF ta ca fa ga D mny N f g rk rf rg rh) s.heap.size) (wW T Ad AF ta ca fa ga D mny N f g rk rf rg rh) := hD
          subst hw
          refine gtop (y := (-30)) (wD_30 (show kRenew D mny (N (j % 16)) (nI j) (nI x) = 1 by rw [kRenew_n (by omega) (by omega), if_neg (by omega)])) ?_
          refine lv_iload hx hb dL_isRenewed_65 (lv_at hl 1 rfl) ?_
          refine lv_if_ne (tgt := 75) hx hb dL_isRenewed_67 (by decide) (fun c67 => ?_) (fun c67 => ?_)
          · exact absurd c67 (by decide)
          · skip
            refine lv_bipush (v := (-30)) hx hb dL_isRenewed_70 (by decide) ?_
            refine lv_goto (tgt := 87) hx hb dL_isRenewed_72 (by decide) ?_
            refine lv_icmp_ne (tgt := 94) hx hb dL_isRenewed_87 (by decide) (fun c87 => ?_) (fun c87 => ?_)
            · exact absurd c87 (by decide)
            · skip
              refine lv_iconst (v := 1) hx hb dL_isRenewed_90 (by decide) ?_
              refine lv_goto (tgt := 95) hx hb dL_isRenewed_91 (by decide) ?_
              refine W.widen (k := 6) (n := 36) (Nat.le_of_ble_eq_true rfl) (Nat.le_of_ble_eq_true rfl) ?_
              exact W.zret (v := 1) hx hb hr (by decide) (fun w9 ht9 hW => ⟨⟨1, (D, mny, N, f, g, rk, rf, rg, rh, ta, ca, fa, ga), rfl, ⟨rfl, hI⟩, gBi ht9 (gfin hP (rfl))⟩, hS.F ht9⟩) hS.2.2 dL_isRenewed_95
        · exact absurd c34 (by decide)
  · skip
    have hj16 : j < 16 := Nat.not_le.mp (fun q9 => c3 (nI_le (a := 16) q9 (by omega)))
    obtain ⟨n1, n2⟩ := i5 j hj16
    refine lv_iconst (v := 1) hx hb dL_isRenewed_6 (by decide) ?_
    refine lv_goto (tgt := 11) hx hb dL_isRenewed_7 (by decide) ?_
    refine lv_istore (lv' := [(5, .int 1), (0, .ref (Ad 1)), (1, .ref (Ad 5)), (2, .ref (Ad 8)), (3, .int (nI j)), (4, .int (nI x))]) hx hb dL_isRenewed_11 hl (by decide) rfl (fun ls hl => ?_)
    refine lv_iload hx hb dL_isRenewed_13 (lv_at hl 5 rfl) ?_
    refine lv_if_le (tgt := 29) hx hb dL_isRenewed_15 (by decide) (fun c15 => ?_) (fun c15 => ?_)
    · skip
      have hx9 : x ≤ 0 := Nat.not_lt.mp (fun q9 => nI_ge (a := 0) q9 (by omega) c15)
      refine lv_iconst (v := 0) hx hb dL_isRenewed_29 (by decide) ?_
      refine lv_istore (lv' := [(6, .int 0), (5, .int 1), (0, .ref (Ad 1)), (1, .ref (Ad 5)), (2, .ref (Ad 8)), (3, .int (nI j)), (4, .int (nI x))]) hx hb dL_isRenewed_30 hl (by decide) rfl (fun ls hl => ?_)
      refine lv_iload hx hb dL_isRenewed_32 (lv_at hl 1 rfl) ?_
      refine lv_if_eq (tgt := 56) hx hb dL_isRenewed_34 (by decide) (fun c34 => ?_) (fun c34 => ?_)
      · exact absurd c34 (by decide)
      · skip
        refine lv_iload hx hb dL_isRenewed_37 (lv_at hl 0 rfl) ?_
        refine lv_if_eq (tgt := 56) hx hb dL_isRenewed_39 (by decide) (fun c39 => ?_) (fun c39 => ?_)
        · skip
          refine lv_aload_n hx hb dL_isRenewed_56 rfl (lv_at hl 2 rfl) ?_
          refine lv_iconst (v := 2) hx hb dL_isRenewed_57 (by decide) ?_
          refine lv_iload_n hx hb dL_isRenewed_58 rfl (lv_at hl 5 rfl) ?_
          refine lv_iload hx hb dL_isRenewed_59 (lv_at hl 6 rfl) ?_
          refine lv_iconst (v := 0) hx hb dL_isRenewed_61 (by decide) ?_
          refine gciT (X := wX4 T Ad ta ca fa ga) (vx_runSW (As := [.ref (Ad 1), .int 2, .int (nI j), .int (nI x), .int 0]) (rest := []) ⟨hx, hb, hml, hown, hts⟩ (cL_does_2_noc l hl0 G T Ad AF D mny N f g rk rf rg rh j (nI j) (nI x) 0 _ hj16 (fun _ => ⟨rfl, hj16⟩) (fun h9 => absurd (h9.symm.trans (show kRenew D mny (N j) (nI j) (nI x) = 2 by rw [kRenew_n (by omega) (by omega), if_pos hj16, if_neg (by omega)])) (by decide))) (vx_cwSW 5 hts gL_isRenewed_L_does rfl rfl rfl (by decide +kernel) ⟨Nat.le_of_ble_eq_true rfl, Nat.le_of_ble_eq_true rfl⟩) ⟨gblind, gpreT (X := wX4 T Ad ta ca fa ga) hE hK hP hD hS hA⟩ rfl rfl hl.1 rfl (lv_room (Nat.le_of_ble_eq_true rfl)) dL_isRenewed_62 ⟨Nat.le_of_ble_eq_true rfl, Nat.le_of_ble_eq_true rfl⟩) hP hD hS hA wC_fst (fun r9 H locs hw hP hD hS => ?_)
          have hP : va_P G vwCl (wW T Ad AF ta ca fa ga D mny N f g rk rf rg rh) H := hP
          have hD : va_D (va_A (wW T Ad AF ta ca fa ga D mny N f g rk rf rg rh) s.heap.size) (wW T Ad AF ta ca fa ga D mny N f g rk rf rg rh) := hD
          subst hw
          refine gtop (y := (-20)) (wD_20 (show kRenew D mny (N j) (nI j) (nI x) = 2 by rw [kRenew_n (by omega) (by omega), if_pos hj16, if_neg (by omega)])) ?_
          refine lv_iload hx hb dL_isRenewed_65 (lv_at hl 1 rfl) ?_
          refine lv_if_ne (tgt := 75) hx hb dL_isRenewed_67 (by decide) (fun c67 => ?_) (fun c67 => ?_)
          · skip
            refine lv_iload hx hb dL_isRenewed_75 (lv_at hl 0 rfl) ?_
            refine lv_if_ne (tgt := 85) hx hb dL_isRenewed_77 (by decide) (fun c77 => ?_) (fun c77 => ?_)
            · exact absurd c77 (by decide)
            · skip
              refine lv_bipush (v := (-20)) hx hb dL_isRenewed_80 (by decide) ?_
              refine lv_goto (tgt := 87) hx hb dL_isRenewed_82 (by decide) ?_
              refine lv_icmp_ne (tgt := 94) hx hb dL_isRenewed_87 (by decide) (fun c87 => ?_) (fun c87 => ?_)
              · exact absurd c87 (by decide)
              · skip
                refine lv_iconst (v := 1) hx hb dL_isRenewed_90 (by decide) ?_
                refine lv_goto (tgt := 95) hx hb dL_isRenewed_91 (by decide) ?_
                refine W.widen (k := 6) (n := 36) (Nat.le_of_ble_eq_true rfl) (Nat.le_of_ble_eq_true rfl) ?_
                exact W.zret (v := 1) hx hb hr (by decide) (fun w9 ht9 hW => ⟨⟨1, (D, mny, N, f, g, rk, rf, rg, rh, ta, ca, fa, ga), rfl, ⟨rfl, hI⟩, gBi ht9 (gfin hP (rfl))⟩, hS.F ht9⟩) hS.2.2 dL_isRenewed_95
          · exact absurd c67 (by decide)
        · exact absurd c39 (by decide)
    · skip
      have hx9 : 0 < x := Nat.not_le.mp (fun q9 => c15 (nI_le (b := 0) q9 (by omega)))
      refine lv_iload hx hb dL_isRenewed_18 (lv_at hl 5 rfl) ?_
      refine lv_bipush (v := 6) hx hb dL_isRenewed_20 (by decide) ?_
      refine lv_icmp_ge (tgt := 29) hx hb dL_isRenewed_22 (by decide) (fun c22 => ?_) (fun c22 => ?_)
      · skip
        have hx8 : 6 ≤ x := Nat.not_lt.mp (fun q9 => nI_ge (b := 6) q9 (by omega) c22)
        refine lv_iconst (v := 0) hx hb dL_isRenewed_29 (by decide) ?_
        refine lv_istore (lv' := [(6, .int 0), (5, .int 1), (0, .ref (Ad 1)), (1, .ref (Ad 5)), (2, .ref (Ad 8)), (3, .int (nI j)), (4, .int (nI x))]) hx hb dL_isRenewed_30 hl (by decide) rfl (fun ls hl => ?_)
        refine lv_iload hx hb dL_isRenewed_32 (lv_at hl 1 rfl) ?_
        refine lv_if_eq (tgt := 56) hx hb dL_isRenewed_34 (by decide) (fun c34 => ?_) (fun c34 => ?_)
        · exact absurd c34 (by decide)
        · skip
          refine lv_iload hx hb dL_isRenewed_37 (lv_at hl 0 rfl) ?_
          refine lv_if_eq (tgt := 56) hx hb dL_isRenewed_39 (by decide) (fun c39 => ?_) (fun c39 => ?_)
          · skip
            refine lv_aload_n hx hb dL_isRenewed_56 rfl (lv_at hl 2 rfl) ?_
            refine lv_iconst (v := 2) hx hb dL_isRenewed_57 (by decide) ?_
            refine lv_iload_n hx hb dL_isRenewed_58 rfl (lv_at hl 5 rfl) ?_
            refine lv_iload hx hb dL_isRenewed_59 (lv_at hl 6 rfl) ?_
            refine lv_iconst (v := 0) hx hb dL_isRenewed_61 (by decide) ?_
            refine gciT (X := wX4 T Ad ta ca fa ga) (vx_runSW (As := [.ref (Ad 1), .int 2, .int (nI j), .int (nI x), .int 0]) (rest := []) ⟨hx, hb, hml, hown, hts⟩ (cL_does_2_noc l hl0 G T Ad AF D mny N f g rk rf rg rh j (nI j) (nI x) 0 _ hj16 (fun _ => ⟨rfl, hj16⟩) (fun h9 => absurd (h9.symm.trans (show kRenew D mny (N j) (nI j) (nI x) = 2 by rw [kRenew_n (by omega) (by omega), if_pos hj16, if_neg (by omega)])) (by decide))) (vx_cwSW 5 hts gL_isRenewed_L_does rfl rfl rfl (by decide +kernel) ⟨Nat.le_of_ble_eq_true rfl, Nat.le_of_ble_eq_true rfl⟩) ⟨gblind, gpreT (X := wX4 T Ad ta ca fa ga) hE hK hP hD hS hA⟩ rfl rfl hl.1 rfl (lv_room (Nat.le_of_ble_eq_true rfl)) dL_isRenewed_62 ⟨Nat.le_of_ble_eq_true rfl, Nat.le_of_ble_eq_true rfl⟩) hP hD hS hA wC_fst (fun r9 H locs hw hP hD hS => ?_)
            have hP : va_P G vwCl (wW T Ad AF ta ca fa ga D mny N f g rk rf rg rh) H := hP
            have hD : va_D (va_A (wW T Ad AF ta ca fa ga D mny N f g rk rf rg rh) s.heap.size) (wW T Ad AF ta ca fa ga D mny N f g rk rf rg rh) := hD
            subst hw
            refine gtop (y := (-20)) (wD_20 (show kRenew D mny (N j) (nI j) (nI x) = 2 by rw [kRenew_n (by omega) (by omega), if_pos hj16, if_neg (by omega)])) ?_
            refine lv_iload hx hb dL_isRenewed_65 (lv_at hl 1 rfl) ?_
            refine lv_if_ne (tgt := 75) hx hb dL_isRenewed_67 (by decide) (fun c67 => ?_) (fun c67 => ?_)
            · skip
              refine lv_iload hx hb dL_isRenewed_75 (lv_at hl 0 rfl) ?_
              refine lv_if_ne (tgt := 85) hx hb dL_isRenewed_77 (by decide) (fun c77 => ?_) (fun c77 => ?_)
              · exact absurd c77 (by decide)
              · skip
                refine lv_bipush (v := (-20)) hx hb dL_isRenewed_80 (by decide) ?_
                refine lv_goto (tgt := 87) hx hb dL_isRenewed_82 (by decide) ?_
                refine lv_icmp_ne (tgt := 94) hx hb dL_isRenewed_87 (by decide) (fun c87 => ?_) (fun c87 => ?_)
                · exact absurd c87 (by decide)
                · skip
                  refine lv_iconst (v := 1) hx hb dL_isRenewed_90 (by decide) ?_
                  refine lv_goto (tgt := 95) hx hb dL_isRenewed_91 (by decide) ?_
                  refine W.widen (k := 6) (n := 36) (Nat.le_of_ble_eq_true rfl) (Nat.le_of_ble_eq_true rfl) ?_
                  exact W.zret (v := 1) hx hb hr (by decide) (fun w9 ht9 hW => ⟨⟨1, (D, mny, N, f, g, rk, rf, rg, rh, ta, ca, fa, ga), rfl, ⟨rfl, hI⟩, gBi ht9 (gfin hP (rfl))⟩, hS.F ht9⟩) hS.2.2 dL_isRenewed_95
            · exact absurd c67 (by decide)
          · exact absurd c39 (by decide)
      · skip
        have hx8 : x < 6 := Nat.not_le.mp (fun q9 => c22 (nI_le (a := 6) q9 (by omega)))
        refine lv_iconst (v := 1) hx hb dL_isRenewed_25 (by decide) ?_
        refine lv_goto (tgt := 30) hx hb dL_isRenewed_26 (by decide) ?_
        refine lv_istore (lv' := [(6, .int 1), (5, .int 1), (0, .ref (Ad 1)), (1, .ref (Ad 5)), (2, .ref (Ad 8)), (3, .int (nI j)), (4, .int (nI x))]) hx hb dL_isRenewed_30 hl (by decide) rfl (fun ls hl => ?_)
        refine lv_iload hx hb dL_isRenewed_32 (lv_at hl 1 rfl) ?_
        refine lv_if_eq (tgt := 56) hx hb dL_isRenewed_34 (by decide) (fun c34 => ?_) (fun c34 => ?_)
        · exact absurd c34 (by decide)
        · skip
          refine lv_iload hx hb dL_isRenewed_37 (lv_at hl 0 rfl) ?_
          refine lv_if_eq (tgt := 56) hx hb dL_isRenewed_39 (by decide) (fun c39 => ?_) (fun c39 => ?_)
          · exact absurd c39 (by decide)
          · skip
            refine lv_aload_n hx hb dL_isRenewed_42 rfl (lv_at hl 3 rfl) ?_
            refine lv_iload_n hx hb dL_isRenewed_43 rfl (lv_at hl 5 rfl) ?_
            refine giald (j := j) hx hb hK hP 0 0 rfl rfl (show (nI j : Int32) = nI j from rfl) (by omega) (by decide) dL_isRenewed_44 ?_
            refine gtop (y := N j 0) n2.1 ?_
            refine lv_iconst (v := 2) hx hb dL_isRenewed_45 (by decide) ?_
            refine lv_icmp_eq (tgt := 96) hx hb dL_isRenewed_46 (by decide) (fun c46 => ?_) (fun c46 => ?_)
            · skip
              obtain ⟨e9, o, ho6, he1, he2, e1, e3, hz⟩ := n1.atH (s := 2) c46 (by omega) (by omega)
              have h23 : N j 0 = 2 ∨ N j 0 = 3 := Or.inl c46
              have hkr := kRenew_h (D := D) (mny := mny) (N := N j) (x := x) hj16 (by omega) h23 e1 ho6 e3 i1 (j2 o ho6) (by have := hm9 o ho6; omega) (by omega) (by omega)
              refine lv_aload_n hx hb dL_isRenewed_96 rfl (lv_at hl 3 rfl) ?_
              refine lv_bipush (v := 32) hx hb dL_isRenewed_97 (by decide) ?_
              refine lv_iload_n hx hb dL_isRenewed_99 rfl (lv_at hl 5 rfl) ?_
              refine lv_iadd hx hb dL_isRenewed_100 ?_
              refine gtop (y := nI (32 + j)) (nI_add 32 j) ?_
              refine giald (j := (32 + j)) hx hb hK hP 0 0 rfl rfl (show (nI (32 + j) : Int32) = nI (32 + j) from rfl) (by omega) (by decide) dL_isRenewed_101 ?_
              refine gtop (y := nI e9) (show ta (32 + j) = nI e9 by rw [n2.2.2.1, sDay_H (s := 2) (by omega) (by omega) c46 e3, show e9 + 10 * 2 - 20 = e9 by omega]) ?_
              refine lv_aload_n hx hb dL_isRenewed_102 rfl (lv_at hl 3 rfl) ?_
              refine lv_iload_n hx hb dL_isRenewed_103 rfl (lv_at hl 5 rfl) ?_
              refine giald (j := j) hx hb hK hP 0 0 rfl rfl (show (nI j : Int32) = nI j from rfl) (by omega) (by decide) dL_isRenewed_104 ?_
              refine gtop (y := N j 0) n2.1 ?_
              refine lv_iconst (v := 3) hx hb dL_isRenewed_105 (by decide) ?_
              refine lv_icmp_ne (tgt := 114) hx hb dL_isRenewed_106 (by decide) (fun c106 => ?_) (fun c106 => ?_)
              · skip
                refine lv_iconst (v := 0) hx hb dL_isRenewed_114 (by decide) ?_
                refine lv_isub hx hb dL_isRenewed_115 ?_
                refine gtop (y := nI e9) (Int32.sub_zero _) ?_
                refine lv_bipush (v := 100) hx hb dL_isRenewed_116 (by decide) ?_
                refine lv_iload hx hb dL_isRenewed_118 (lv_at hl 6 rfl) ?_
                refine lv_imul hx hb dL_isRenewed_120 ?_
                refine gtop (y := nI (100 * x)) (pk_mul 100 x) ?_
                refine lv_iadd hx hb dL_isRenewed_121 ?_
                refine gtop (y := nI (e9 + (100 * x))) (nI_add e9 (100 * x)) ?_
                refine lv_istore (lv' := [(7, .int (nI (e9 + (100 * x)))), (6, .int 1), (5, .int 1), (0, .ref (Ad 1)), (1, .ref (Ad 5)), (2, .ref (Ad 8)), (3, .int (nI j)), (4, .int (nI x))]) hx hb dL_isRenewed_122 hl (by decide) rfl (fun ls hl => ?_)
                refine lv_aload_n hx hb dL_isRenewed_124 rfl (lv_at hl 3 rfl) ?_
                refine lv_aload_n hx hb dL_isRenewed_125 rfl (lv_at hl 4 rfl) ?_
                refine lv_bipush (v := 16) hx hb dL_isRenewed_126 (by decide) ?_
                refine lv_iload_n hx hb dL_isRenewed_128 rfl (lv_at hl 6 rfl) ?_
                refine lv_iadd hx hb dL_isRenewed_129 ?_
                refine gtop (y := nI (16 + j)) (nI_add 16 j) ?_
                refine giald (j := (16 + j)) hx hb hK hP 0 0 rfl rfl (show (nI (16 + j) : Int32) = nI (16 + j) from rfl) (by omega) (by decide) dL_isRenewed_130 ?_
                refine gtop (y := nI o) (n2.2.1.trans e1) ?_
                refine gciT (X := wX4 T Ad ta ca fa ga) (va_runV (As := [.int (nI o)]) (rest := []) ⟨hx, hb, hml, hown, hts⟩ (cX2_funds_c l hl0 G T Ad AF D mny N f g rk rf rg rh o _ (by omega)) (cwV 1 hts gL_isRenewed_X2_funds rfl rfl rfl (by decide +kernel) ⟨Nat.le_of_ble_eq_true rfl, Nat.le_of_ble_eq_true rfl⟩) ⟨gblind, va_recv hK hP (ci := 2) (q0 := 4) rfl rfl, gpreT (X := wX4 T Ad ta ca fa ga) hE hK hP hD hS hA⟩ rfl rfl hl.1 rfl (lv_room (Nat.le_of_ble_eq_true rfl)) dL_isRenewed_131 ⟨Nat.le_of_ble_eq_true rfl, Nat.le_of_ble_eq_true rfl⟩) hP hD hS hA wC_fst (fun r9 H locs hw hP hD hS => ?_)
                have hP : va_P G vwCl (wW T Ad AF ta ca fa ga D mny N f g rk rf rg rh) H := hP
                have hD : va_D (va_A (wW T Ad AF ta ca fa ga D mny N f g rk rf rg rh) s.heap.size) (wW T Ad AF ta ca fa ga D mny N f g rk rf rg rh) := hD
                subst hw
                refine gtop (y := nI (m9 o)) (j2 o ho6) ?_
                refine lv_istore (lv' := [(8, .int (nI (m9 o))), (7, .int (nI (e9 + (100 * x)))), (6, .int 1), (5, .int 1), (0, .ref (Ad 1)), (1, .ref (Ad 5)), (2, .ref (Ad 8)), (3, .int (nI j)), (4, .int (nI x))]) hx hb dL_isRenewed_134 hl (by decide) rfl (fun ls hl => ?_)
                refine lv_iload hx hb dL_isRenewed_136 (lv_at hl 1 rfl) ?_
                refine lv_aload_n hx hb dL_isRenewed_138 rfl (lv_at hl 6 rfl) ?_
                refine lv_iconst (v := 0) hx hb dL_isRenewed_139 (by decide) ?_
                refine giald (j := 0) hx hb hK hP 3 0 rfl rfl (show (0 : Int32) = nI 0 from rfl) (by omega) (by decide) dL_isRenewed_140 ?_
                refine gtop (y := nI d) i2 ?_
                refine lv_sipush (v := 600) hx hb dL_isRenewed_141 (by decide) ?_
                refine lv_iadd hx hb dL_isRenewed_144 ?_
                refine gtop (y := nI (d + 600)) (nI_add d 600) ?_
                refine lv_icmp_gt (tgt := 162) hx hb dL_isRenewed_145 (by decide) (fun c145 => ?_) (fun c145 => ?_)
                · skip
                  have hend : d + 600 < e9 + 100 * x := Nat.not_le.mp (fun q9 => nI_nlt q9 (by omega) c145)
                  refine lv_iconst (v := 0) hx hb dL_isRenewed_162 (by decide) ?_
                  refine lv_istore (lv' := [(9, .int 0), (8, .int (nI (m9 o))), (7, .int (nI (e9 + (100 * x)))), (6, .int 1), (5, .int 1), (0, .ref (Ad 1)), (1, .ref (Ad 5)), (2, .ref (Ad 8)), (3, .int (nI j)), (4, .int (nI x))]) hx hb dL_isRenewed_163 hl (by decide) rfl (fun ls hl => ?_)
                  refine lv_aload_n hx hb dL_isRenewed_165 rfl (lv_at hl 5 rfl) ?_
                  refine lv_iconst (v := 2) hx hb dL_isRenewed_166 (by decide) ?_
                  refine lv_iload_n hx hb dL_isRenewed_167 rfl (lv_at hl 8 rfl) ?_
                  refine lv_iload hx hb dL_isRenewed_168 (lv_at hl 9 rfl) ?_
                  refine lv_iconst (v := 0) hx hb dL_isRenewed_170 (by decide) ?_
                  refine gciT (X := wX4 T Ad ta ca fa ga) (vx_runSW (As := [.ref (Ad 1), .int 2, .int (nI j), .int (nI x), .int 0]) (rest := []) ⟨hx, hb, hml, hown, hts⟩ (cL_does_2_noc l hl0 G T Ad AF D mny N f g rk rf rg rh j (nI j) (nI x) 0 _ (by omega) (fun _ => ⟨rfl, hj16⟩) (fun h9 => absurd (h9.symm.trans (hkr.trans (by rw [if_pos hend]))) (by decide))) (vx_cwSW 5 hts gL_isRenewed_L_does rfl rfl rfl (by decide +kernel) ⟨Nat.le_of_ble_eq_true rfl, Nat.le_of_ble_eq_true rfl⟩) ⟨gblind, gpreT (X := wX4 T Ad ta ca fa ga) hE hK hP hD hS hA⟩ rfl rfl hl.1 rfl (lv_room (Nat.le_of_ble_eq_true rfl)) dL_isRenewed_171 ⟨Nat.le_of_ble_eq_true rfl, Nat.le_of_ble_eq_true rfl⟩) hP hD hS hA wC_fst (fun r9 H locs hw hP hD hS => ?_)
                  have hP : va_P G vwCl (wW T Ad AF ta ca fa ga D mny N f g rk rf rg rh) H := hP
                  have hD : va_D (va_A (wW T Ad AF ta ca fa ga D mny N f g rk rf rg rh) s.heap.size) (wW T Ad AF ta ca fa ga D mny N f g rk rf rg rh) := hD
                  subst hw
                  refine gtop (y := (-10)) (wD_10 (hkr.trans (by rw [if_pos hend]))) ?_
                  refine lv_iload hx hb dL_isRenewed_174 (lv_at hl 0 rfl) ?_
                  refine lv_if_eq (tgt := 184) hx hb dL_isRenewed_176 (by decide) (fun c176 => ?_) (fun c176 => ?_)
                  · skip
                    refine lv_bipush (v := (-10)) hx hb dL_isRenewed_184 (by decide) ?_
                    refine lv_icmp_ne (tgt := 223) hx hb dL_isRenewed_186 (by decide) (fun c186 => ?_) (fun c186 => ?_)
                    · exact absurd c186 (by decide)
                    · skip
                      refine lv_aload_n hx hb dL_isRenewed_189 rfl (lv_at hl 5 rfl) ?_
                      refine lv_aload_n hx hb dL_isRenewed_190 rfl (lv_at hl 6 rfl) ?_
                      refine lv_bipush (v := 16) hx hb dL_isRenewed_191 (by decide) ?_
                      refine lv_iload_n hx hb dL_isRenewed_193 rfl (lv_at hl 8 rfl) ?_
                      refine lv_iadd hx hb dL_isRenewed_194 ?_
                      refine gtop (y := nI (16 + j)) (nI_add 16 j) ?_
                      refine giald (j := (16 + j)) hx hb hK hP 0 0 rfl rfl (show (nI (16 + j) : Int32) = nI (16 + j) from rfl) (by omega) (by decide) dL_isRenewed_195 ?_
                      refine gtop (y := nI o) (n2.2.1.trans e1) ?_
                      refine gciT (X := wX4 T Ad ta ca fa ga) (va_runV (As := [.int (nI o)]) (rest := []) ⟨hx, hb, hml, hown, hts⟩ (cX2_funds_c l hl0 G T Ad AF D mny N f g rk rf rg rh o _ (by omega)) (cwV 1 hts gL_isRenewed_X2_funds rfl rfl rfl (by decide +kernel) ⟨Nat.le_of_ble_eq_true rfl, Nat.le_of_ble_eq_true rfl⟩) ⟨gblind, va_recv hK hP (ci := 2) (q0 := 4) rfl rfl, gpreT (X := wX4 T Ad ta ca fa ga) hE hK hP hD hS hA⟩ rfl rfl hl.1 rfl (lv_room (Nat.le_of_ble_eq_true rfl)) dL_isRenewed_196 ⟨Nat.le_of_ble_eq_true rfl, Nat.le_of_ble_eq_true rfl⟩) hP hD hS hA wC_fst (fun r9 H locs hw hP hD hS => ?_)
                      have hP : va_P G vwCl (wW T Ad AF ta ca fa ga D mny N f g rk rf rg rh) H := hP
                      have hD : va_D (va_A (wW T Ad AF ta ca fa ga D mny N f g rk rf rg rh) s.heap.size) (wW T Ad AF ta ca fa ga D mny N f g rk rf rg rh) := hD
                      subst hw
                      refine gtop (y := nI (m9 o)) (j2 o ho6) ?_
                      refine lv_iload hx hb dL_isRenewed_199 (lv_at hl 1 rfl) ?_
                      refine lv_iload hx hb dL_isRenewed_201 (lv_at hl 0 rfl) ?_
                      refine lv_if_eq (tgt := 214) hx hb dL_isRenewed_203 (by decide) (fun c203 => ?_) (fun c203 => ?_)
                      · skip
                        refine lv_iconst (v := 0) hx hb dL_isRenewed_214 (by decide) ?_
                        refine lv_isub hx hb dL_isRenewed_215 ?_
                        refine gtop (y := nI (m9 o)) (Int32.sub_zero _) ?_
                        refine lv_icmp_ne (tgt := 223) hx hb dL_isRenewed_216 (by decide) (fun c216 => ?_) (fun c216 => ?_)
                        · exact absurd rfl c216
                        · skip
                          refine lv_iconst (v := 1) hx hb dL_isRenewed_219 (by decide) ?_
                          refine lv_goto (tgt := 224) hx hb dL_isRenewed_220 (by decide) ?_
                          refine lv_istore (lv' := [(10, .int 1), (9, .int 0), (8, .int (nI (m9 o))), (7, .int (nI (e9 + (100 * x)))), (6, .int 1), (5, .int 1), (0, .ref (Ad 1)), (1, .ref (Ad 5)), (2, .ref (Ad 8)), (3, .int (nI j)), (4, .int (nI x))]) hx hb dL_isRenewed_224 hl (by decide) rfl (fun ls hl => ?_)
                          refine lv_iload hx hb dL_isRenewed_226 (lv_at hl 1 rfl) ?_
                          refine lv_if_eq (tgt := 243) hx hb dL_isRenewed_228 (by decide) (fun c228 => ?_) (fun c228 => ?_)
                          · skip
                            refine lv_iload hx hb dL_isRenewed_243 (lv_at hl 0 rfl) ?_
                            refine W.widen (k := 6) (n := 36) (Nat.le_of_ble_eq_true rfl) (Nat.le_of_ble_eq_true rfl) ?_
                            exact W.zret (v := 1) hx hb hr (by decide) (fun w9 ht9 hW => ⟨⟨1, (D, mny, N, f, g, rk, rf, rg, rh, ta, ca, fa, ga), rfl, ⟨rfl, hI⟩, gBi ht9 (gfin hP (rfl))⟩, hS.F ht9⟩) hS.2.2 dL_isRenewed_245
                          · exact absurd c228 (by decide)
                      · exact absurd c203 (by decide)
                  · exact absurd c176 (by decide)
                · skip
                  have hend : e9 + 100 * x ≤ d + 600 := Nat.not_lt.mp (fun q9 => c145 (nI_lt q9 (by omega)))
                  refine lv_iload hx hb dL_isRenewed_148 (lv_at hl 0 rfl) ?_
                  refine lv_bipush (v := 20) hx hb dL_isRenewed_150 (by decide) ?_
                  refine lv_iload hx hb dL_isRenewed_152 (lv_at hl 8 rfl) ?_
                  refine lv_imul hx hb dL_isRenewed_154 ?_
                  refine gtop (y := nI (20 * x)) (pk_mul 20 x) ?_
                  refine lv_icmp_lt (tgt := 162) hx hb dL_isRenewed_155 (by decide) (fun c155 => ?_) (fun c155 => ?_)
                  · skip
                    have hpay : m9 o < 20 * x := Nat.not_le.mp (fun q9 => nI_nlt q9 (by have := hm9 o ho6; omega) c155)
                    refine lv_iconst (v := 0) hx hb dL_isRenewed_162 (by decide) ?_
                    refine lv_istore (lv' := [(9, .int 0), (8, .int (nI (m9 o))), (7, .int (nI (e9 + (100 * x)))), (6, .int 1), (5, .int 1), (0, .ref (Ad 1)), (1, .ref (Ad 5)), (2, .ref (Ad 8)), (3, .int (nI j)), (4, .int (nI x))]) hx hb dL_isRenewed_163 hl (by decide) rfl (fun ls hl => ?_)
                    refine lv_aload_n hx hb dL_isRenewed_165 rfl (lv_at hl 5 rfl) ?_
                    refine lv_iconst (v := 2) hx hb dL_isRenewed_166 (by decide) ?_
                    refine lv_iload_n hx hb dL_isRenewed_167 rfl (lv_at hl 8 rfl) ?_
                    refine lv_iload hx hb dL_isRenewed_168 (lv_at hl 9 rfl) ?_
                    refine lv_iconst (v := 0) hx hb dL_isRenewed_170 (by decide) ?_
                    refine gciT (X := wX4 T Ad ta ca fa ga) (vx_runSW (As := [.ref (Ad 1), .int 2, .int (nI j), .int (nI x), .int 0]) (rest := []) ⟨hx, hb, hml, hown, hts⟩ (cL_does_2_noc l hl0 G T Ad AF D mny N f g rk rf rg rh j (nI j) (nI x) 0 _ (by omega) (fun _ => ⟨rfl, hj16⟩) (fun h9 => absurd (h9.symm.trans (hkr.trans (by rw [if_neg (by omega), if_pos hpay]))) (by decide))) (vx_cwSW 5 hts gL_isRenewed_L_does rfl rfl rfl (by decide +kernel) ⟨Nat.le_of_ble_eq_true rfl, Nat.le_of_ble_eq_true rfl⟩) ⟨gblind, gpreT (X := wX4 T Ad ta ca fa ga) hE hK hP hD hS hA⟩ rfl rfl hl.1 rfl (lv_room (Nat.le_of_ble_eq_true rfl)) dL_isRenewed_171 ⟨Nat.le_of_ble_eq_true rfl, Nat.le_of_ble_eq_true rfl⟩) hP hD hS hA wC_fst (fun r9 H locs hw hP hD hS => ?_)
                    have hP : va_P G vwCl (wW T Ad AF ta ca fa ga D mny N f g rk rf rg rh) H := hP
                    have hD : va_D (va_A (wW T Ad AF ta ca fa ga D mny N f g rk rf rg rh) s.heap.size) (wW T Ad AF ta ca fa ga D mny N f g rk rf rg rh) := hD
                    subst hw
                    refine gtop (y := (-10)) (wD_10 (hkr.trans (by rw [if_neg (by omega), if_pos hpay]))) ?_
                    refine lv_iload hx hb dL_isRenewed_174 (lv_at hl 0 rfl) ?_
                    refine lv_if_eq (tgt := 184) hx hb dL_isRenewed_176 (by decide) (fun c176 => ?_) (fun c176 => ?_)
                    · skip
                      refine lv_bipush (v := (-10)) hx hb dL_isRenewed_184 (by decide) ?_
                      refine lv_icmp_ne (tgt := 223) hx hb dL_isRenewed_186 (by decide) (fun c186 => ?_) (fun c186 => ?_)
                      · exact absurd c186 (by decide)
                      · skip
                        refine lv_aload_n hx hb dL_isRenewed_189 rfl (lv_at hl 5 rfl) ?_
                        refine lv_aload_n hx hb dL_isRenewed_190 rfl (lv_at hl 6 rfl) ?_
                        refine lv_bipush (v := 16) hx hb dL_isRenewed_191 (by decide) ?_
                        refine lv_iload_n hx hb dL_isRenewed_193 rfl (lv_at hl 8 rfl) ?_
                        refine lv_iadd hx hb dL_isRenewed_194 ?_
                        refine gtop (y := nI (16 + j)) (nI_add 16 j) ?_
                        refine giald (j := (16 + j)) hx hb hK hP 0 0 rfl rfl (show (nI (16 + j) : Int32) = nI (16 + j) from rfl) (by omega) (by decide) dL_isRenewed_195 ?_
                        refine gtop (y := nI o) (n2.2.1.trans e1) ?_
                        refine gciT (X := wX4 T Ad ta ca fa ga) (va_runV (As := [.int (nI o)]) (rest := []) ⟨hx, hb, hml, hown, hts⟩ (cX2_funds_c l hl0 G T Ad AF D mny N f g rk rf rg rh o _ (by omega)) (cwV 1 hts gL_isRenewed_X2_funds rfl rfl rfl (by decide +kernel) ⟨Nat.le_of_ble_eq_true rfl, Nat.le_of_ble_eq_true rfl⟩) ⟨gblind, va_recv hK hP (ci := 2) (q0 := 4) rfl rfl, gpreT (X := wX4 T Ad ta ca fa ga) hE hK hP hD hS hA⟩ rfl rfl hl.1 rfl (lv_room (Nat.le_of_ble_eq_true rfl)) dL_isRenewed_196 ⟨Nat.le_of_ble_eq_true rfl, Nat.le_of_ble_eq_true rfl⟩) hP hD hS hA wC_fst (fun r9 H locs hw hP hD hS => ?_)
                        have hP : va_P G vwCl (wW T Ad AF ta ca fa ga D mny N f g rk rf rg rh) H := hP
                        have hD : va_D (va_A (wW T Ad AF ta ca fa ga D mny N f g rk rf rg rh) s.heap.size) (wW T Ad AF ta ca fa ga D mny N f g rk rf rg rh) := hD
                        subst hw
                        refine gtop (y := nI (m9 o)) (j2 o ho6) ?_
                        refine lv_iload hx hb dL_isRenewed_199 (lv_at hl 1 rfl) ?_
                        refine lv_iload hx hb dL_isRenewed_201 (lv_at hl 0 rfl) ?_
                        refine lv_if_eq (tgt := 214) hx hb dL_isRenewed_203 (by decide) (fun c203 => ?_) (fun c203 => ?_)
                        · skip
                          refine lv_iconst (v := 0) hx hb dL_isRenewed_214 (by decide) ?_
                          refine lv_isub hx hb dL_isRenewed_215 ?_
                          refine gtop (y := nI (m9 o)) (Int32.sub_zero _) ?_
                          refine lv_icmp_ne (tgt := 223) hx hb dL_isRenewed_216 (by decide) (fun c216 => ?_) (fun c216 => ?_)
                          · exact absurd rfl c216
                          · skip
                            refine lv_iconst (v := 1) hx hb dL_isRenewed_219 (by decide) ?_
                            refine lv_goto (tgt := 224) hx hb dL_isRenewed_220 (by decide) ?_
                            refine lv_istore (lv' := [(10, .int 1), (9, .int 0), (8, .int (nI (m9 o))), (7, .int (nI (e9 + (100 * x)))), (6, .int 1), (5, .int 1), (0, .ref (Ad 1)), (1, .ref (Ad 5)), (2, .ref (Ad 8)), (3, .int (nI j)), (4, .int (nI x))]) hx hb dL_isRenewed_224 hl (by decide) rfl (fun ls hl => ?_)
                            refine lv_iload hx hb dL_isRenewed_226 (lv_at hl 1 rfl) ?_
                            refine lv_if_eq (tgt := 243) hx hb dL_isRenewed_228 (by decide) (fun c228 => ?_) (fun c228 => ?_)
                            · skip
                              refine lv_iload hx hb dL_isRenewed_243 (lv_at hl 0 rfl) ?_
                              refine W.widen (k := 6) (n := 36) (Nat.le_of_ble_eq_true rfl) (Nat.le_of_ble_eq_true rfl) ?_
                              exact W.zret (v := 1) hx hb hr (by decide) (fun w9 ht9 hW => ⟨⟨1, (D, mny, N, f, g, rk, rf, rg, rh, ta, ca, fa, ga), rfl, ⟨rfl, hI⟩, gBi ht9 (gfin hP (rfl))⟩, hS.F ht9⟩) hS.2.2 dL_isRenewed_245
                            · exact absurd c228 (by decide)
                        · exact absurd c203 (by decide)
                    · exact absurd c176 (by decide)
                  · skip
                    have hpay : 20 * x ≤ m9 o := Nat.not_lt.mp (fun q9 => c155 (nI_lt q9 (by omega)))
                    refine lv_iconst (v := 1) hx hb dL_isRenewed_158 (by decide) ?_
                    refine lv_goto (tgt := 163) hx hb dL_isRenewed_159 (by decide) ?_
                    refine lv_istore (lv' := [(9, .int 1), (8, .int (nI (m9 o))), (7, .int (nI (e9 + (100 * x)))), (6, .int 1), (5, .int 1), (0, .ref (Ad 1)), (1, .ref (Ad 5)), (2, .ref (Ad 8)), (3, .int (nI j)), (4, .int (nI x))]) hx hb dL_isRenewed_163 hl (by decide) rfl (fun ls hl => ?_)
                    refine lv_aload_n hx hb dL_isRenewed_165 rfl (lv_at hl 5 rfl) ?_
                    refine lv_iconst (v := 2) hx hb dL_isRenewed_166 (by decide) ?_
                    refine lv_iload_n hx hb dL_isRenewed_167 rfl (lv_at hl 8 rfl) ?_
                    refine lv_iload hx hb dL_isRenewed_168 (lv_at hl 9 rfl) ?_
                    refine lv_iconst (v := 0) hx hb dL_isRenewed_170 (by decide) ?_
                    refine gciT (X := wX4 T Ad ta ca fa ga) (vx_runSW (As := [.ref (Ad 1), .int 2, .int (nI j), .int (nI x), .int 0]) (rest := []) ⟨hx, hb, hml, hown, hts⟩ (cL_does_2_okc l hl0 G T Ad AF D mny N f g rk rf rg rh j (nI x) 0 _ (by omega) (hkr.trans (by rw [if_neg (by omega), if_neg (by omega)]))) (vx_cwSW 5 hts gL_isRenewed_L_does rfl rfl rfl (by decide +kernel) ⟨Nat.le_of_ble_eq_true rfl, Nat.le_of_ble_eq_true rfl⟩) ⟨gblind, gpreT (X := wX4 T Ad ta ca fa ga) hE hK hP hD hS hA⟩ rfl rfl hl.1 rfl (lv_room (Nat.le_of_ble_eq_true rfl)) dL_isRenewed_171 ⟨Nat.le_of_ble_eq_true rfl, Nat.le_of_ble_eq_true rfl⟩) hP hD hS hA wC_fst (fun r9 H locs hw hP hD hS => ?_)
                    have hP : va_P G vwCl (wW T Ad AF ta ca fa ga (sPayD D mny ((N j) 1) ((nI x) * 20)) (sPayF mny ((N j) 1) ((nI x) * 20)) (updA N j (upd (upd (N j) 3 ((N j) 3 + (nI x) * 100)) 0 2)) f g rk rf rg rh) H := hP
                    have hD : va_D (va_A (wW T Ad AF ta ca fa ga D mny N f g rk rf rg rh) s.heap.size) (wW T Ad AF ta ca fa ga (sPayD D mny ((N j) 1) ((nI x) * 20)) (sPayF mny ((N j) 1) ((nI x) * 20)) (updA N j (upd (upd (N j) 3 ((N j) 3 + (nI x) * 100)) 0 2)) f g rk rf rg rh) := hD
                    subst hw
                    refine gtop (y := nI (e9 + (100 * x))) (by rw [e3, nI_100, nI_add]) ?_
                    refine lv_iload hx hb dL_isRenewed_174 (lv_at hl 0 rfl) ?_
                    refine lv_if_eq (tgt := 184) hx hb dL_isRenewed_176 (by decide) (fun c176 => ?_) (fun c176 => ?_)
                    · exact absurd c176 (by decide)
                    · skip
                      refine lv_iload hx hb dL_isRenewed_179 (lv_at hl 2 rfl) ?_
                      refine lv_goto (tgt := 186) hx hb dL_isRenewed_181 (by decide) ?_
                      refine lv_icmp_ne (tgt := 223) hx hb dL_isRenewed_186 (by decide) (fun c186 => ?_) (fun c186 => ?_)
                      · exact absurd rfl c186
                      · skip
                        refine lv_aload_n hx hb dL_isRenewed_189 rfl (lv_at hl 5 rfl) ?_
                        refine lv_aload_n hx hb dL_isRenewed_190 rfl (lv_at hl 6 rfl) ?_
                        refine lv_bipush (v := 16) hx hb dL_isRenewed_191 (by decide) ?_
                        refine lv_iload_n hx hb dL_isRenewed_193 rfl (lv_at hl 8 rfl) ?_
                        refine lv_iadd hx hb dL_isRenewed_194 ?_
                        refine gtop (y := nI (16 + j)) (nI_add 16 j) ?_
                        refine giald (j := (16 + j)) hx hb hK hP 0 0 rfl rfl (show (nI (16 + j) : Int32) = nI (16 + j) from rfl) (by omega) (by decide) dL_isRenewed_195 ?_
                        refine gtop (y := nI o) (n2.2.1.trans e1) ?_
                        refine gciT (X := wX4 T Ad ta ca fa ga) (va_runV (As := [.int (nI o)]) (rest := []) ⟨hx, hb, hml, hown, hts⟩ (cX2_funds_c l hl0 G T Ad AF (sPayD D mny ((N j) 1) ((nI x) * 20)) (sPayF mny ((N j) 1) ((nI x) * 20)) (updA N j (upd (upd (N j) 3 ((N j) 3 + (nI x) * 100)) 0 2)) f g rk rf rg rh o _ (by omega)) (cwV 1 hts gL_isRenewed_X2_funds rfl rfl rfl (by decide +kernel) ⟨Nat.le_of_ble_eq_true rfl, Nat.le_of_ble_eq_true rfl⟩) ⟨gblind, va_recv hK hP (ci := 2) (q0 := 4) rfl rfl, gpreT (X := wX4 T Ad ta ca fa ga) hE hK hP hD hS hA⟩ rfl rfl hl.1 rfl (lv_room (Nat.le_of_ble_eq_true rfl)) dL_isRenewed_196 ⟨Nat.le_of_ble_eq_true rfl, Nat.le_of_ble_eq_true rfl⟩) hP hD hS hA wC_fst (fun r9 H locs hw hP hD hS => ?_)
                        have hP : va_P G vwCl (wW T Ad AF ta ca fa ga (sPayD D mny ((N j) 1) ((nI x) * 20)) (sPayF mny ((N j) 1) ((nI x) * 20)) (updA N j (upd (upd (N j) 3 ((N j) 3 + (nI x) * 100)) 0 2)) f g rk rf rg rh) H := hP
                        have hD : va_D (va_A (wW T Ad AF ta ca fa ga D mny N f g rk rf rg rh) s.heap.size) (wW T Ad AF ta ca fa ga (sPayD D mny ((N j) 1) ((nI x) * 20)) (sPayF mny ((N j) 1) ((nI x) * 20)) (updA N j (upd (upd (N j) 3 ((N j) 3 + (nI x) * 100)) 0 2)) f g rk rf rg rh) := hD
                        subst hw
                        refine gtop (y := nI (m9 o - 20 * x)) (by rw [e1, nI_20, (sPay_n (D := D) ho6 (j2 o ho6) (by have := hm9 o ho6; omega) hpay).2, upd_at]) ?_
                        refine lv_iload hx hb dL_isRenewed_199 (lv_at hl 1 rfl) ?_
                        refine lv_iload hx hb dL_isRenewed_201 (lv_at hl 0 rfl) ?_
                        refine lv_if_eq (tgt := 214) hx hb dL_isRenewed_203 (by decide) (fun c203 => ?_) (fun c203 => ?_)
                        · exact absurd c203 (by decide)
                        · skip
                          refine lv_bipush (v := 20) hx hb dL_isRenewed_206 (by decide) ?_
                          refine lv_iload hx hb dL_isRenewed_208 (lv_at hl 9 rfl) ?_
                          refine lv_imul hx hb dL_isRenewed_210 ?_
                          refine gtop (y := nI (20 * x)) (pk_mul 20 x) ?_
                          refine lv_goto (tgt := 215) hx hb dL_isRenewed_211 (by decide) ?_
                          refine lv_isub hx hb dL_isRenewed_215 ?_
                          refine gtop (y := nI (m9 o - 20 * x)) (pk_sub hpay) ?_
                          refine lv_icmp_ne (tgt := 223) hx hb dL_isRenewed_216 (by decide) (fun c216 => ?_) (fun c216 => ?_)
                          · exact absurd rfl c216
                          · skip
                            refine lv_iconst (v := 1) hx hb dL_isRenewed_219 (by decide) ?_
                            refine lv_goto (tgt := 224) hx hb dL_isRenewed_220 (by decide) ?_
                            refine lv_istore (lv' := [(10, .int 1), (9, .int 1), (8, .int (nI (m9 o))), (7, .int (nI (e9 + (100 * x)))), (6, .int 1), (5, .int 1), (0, .ref (Ad 1)), (1, .ref (Ad 5)), (2, .ref (Ad 8)), (3, .int (nI j)), (4, .int (nI x))]) hx hb dL_isRenewed_224 hl (by decide) rfl (fun ls hl => ?_)
                            refine lv_iload hx hb dL_isRenewed_226 (lv_at hl 1 rfl) ?_
                            refine lv_if_eq (tgt := 243) hx hb dL_isRenewed_228 (by decide) (fun c228 => ?_) (fun c228 => ?_)
                            · exact absurd c228 (by decide)
                            · skip
                              refine lv_aload_n hx hb dL_isRenewed_231 rfl (lv_at hl 7 rfl) ?_
                              refine lv_iload_n hx hb dL_isRenewed_232 rfl (lv_at hl 9 rfl) ?_
                              refine lv_iconst (v := 2) hx hb dL_isRenewed_233 (by decide) ?_
                              refine giast (j := j) hx hb hK hP hD hS 0 0 rfl rfl (show (nI j : Int32) = nI j from rfl) (by omega) (by decide) dL_isRenewed_234 (fun H locs hP hD hS => ?_)
                              have hP : va_P G vwCl (wW T Ad AF (upd ta j 2) ca fa ga (sPayD D mny ((N j) 1) ((nI x) * 20)) (sPayF mny ((N j) 1) ((nI x) * 20)) (updA N j (upd (upd (N j) 3 ((N j) 3 + (nI x) * 100)) 0 2)) f g rk rf rg rh) H := hP
                              have hD : va_D (va_A (wW T Ad AF ta ca fa ga D mny N f g rk rf rg rh) s.heap.size) (wW T Ad AF (upd ta j 2) ca fa ga (sPayD D mny ((N j) 1) ((nI x) * 20)) (sPayF mny ((N j) 1) ((nI x) * 20)) (updA N j (upd (upd (N j) 3 ((N j) 3 + (nI x) * 100)) 0 2)) f g rk rf rg rh) := hD
                              refine lv_aload_n hx hb dL_isRenewed_235 rfl (lv_at hl 7 rfl) ?_
                              refine lv_bipush (v := 32) hx hb dL_isRenewed_236 (by decide) ?_
                              refine lv_iload_n hx hb dL_isRenewed_238 rfl (lv_at hl 9 rfl) ?_
                              refine lv_iadd hx hb dL_isRenewed_239 ?_
                              refine gtop (y := nI (32 + j)) (nI_add 32 j) ?_
                              refine lv_iload hx hb dL_isRenewed_240 (lv_at hl 3 rfl) ?_
                              refine giast (j := (32 + j)) hx hb hK hP hD hS 0 0 rfl rfl (show (nI (32 + j) : Int32) = nI (32 + j) from rfl) (by omega) (by decide) dL_isRenewed_242 (fun H locs hP hD hS => ?_)
                              have hP : va_P G vwCl (wW T Ad AF (upd (upd ta j 2) (32 + j) (nI (e9 + (100 * x)))) ca fa ga (sPayD D mny ((N j) 1) ((nI x) * 20)) (sPayF mny ((N j) 1) ((nI x) * 20)) (updA N j (upd (upd (N j) 3 ((N j) 3 + (nI x) * 100)) 0 2)) f g rk rf rg rh) H := hP
                              have hD : va_D (va_A (wW T Ad AF ta ca fa ga D mny N f g rk rf rg rh) s.heap.size) (wW T Ad AF (upd (upd ta j 2) (32 + j) (nI (e9 + (100 * x)))) ca fa ga (sPayD D mny ((N j) 1) ((nI x) * 20)) (sPayF mny ((N j) 1) ((nI x) * 20)) (updA N j (upd (upd (N j) 3 ((N j) 3 + (nI x) * 100)) 0 2)) f g rk rf rg rh) := hD
                              refine lv_iload hx hb dL_isRenewed_243 (lv_at hl 0 rfl) ?_
                              refine W.widen (k := 6) (n := 36) (Nat.le_of_ble_eq_true rfl) (Nat.le_of_ble_eq_true rfl) ?_
                              have hI9 : INV d a (sPayD D mny ((N j) 1) ((nI x) * 20)) (sPayF mny ((N j) 1) ((nI x) * 20)) (updA N j (upd (upd (N j) 3 ((N j) 3 + (nI x) * 100)) 0 2)) f rk rf rg rh (upd (upd ta j 2) (32 + j) (nI (e9 + (100 * x)))) ca fa ga := INV.renew hI hj16 (by omega) (Or.inl rfl) c46 e1 ho6 e3 he1 hend hz j1 j2 j3 (by omega) hpay
                              exact W.zret (v := 1) hx hb hr (by decide) (fun w9 ht9 hW => ⟨⟨1, ((sPayD D mny ((N j) 1) ((nI x) * 20)), (sPayF mny ((N j) 1) ((nI x) * 20)), (updA N j (upd (upd (N j) 3 ((N j) 3 + (nI x) * 100)) 0 2)), f, g, rk, rf, rg, rh, (upd (upd ta j 2) (32 + j) (nI (e9 + (100 * x)))), ca, fa, ga), rfl, ⟨rfl, hI9⟩, gBi ht9 (gfin hP (rfl))⟩, hS.F ht9⟩) hS.2.2 dL_isRenewed_245
              · exact absurd (c46.symm.trans c106) (by decide)
            · skip
              refine lv_aload_n hx hb dL_isRenewed_49 rfl (lv_at hl 3 rfl) ?_
              refine lv_iload_n hx hb dL_isRenewed_50 rfl (lv_at hl 5 rfl) ?_
              refine giald (j := j) hx hb hK hP 0 0 rfl rfl (show (nI j : Int32) = nI j from rfl) (by omega) (by decide) dL_isRenewed_51 ?_
              refine gtop (y := N j 0) n2.1 ?_
              refine lv_iconst (v := 3) hx hb dL_isRenewed_52 (by decide) ?_
              refine lv_icmp_eq (tgt := 96) hx hb dL_isRenewed_53 (by decide) (fun c53 => ?_) (fun c53 => ?_)
              · skip
                obtain ⟨e9, o, ho6, he1, he2, e1, e3, hz⟩ := n1.atH (s := 3) c53 (by omega) (by omega)
                have h23 : N j 0 = 2 ∨ N j 0 = 3 := Or.inr c53
                have hkr := kRenew_h (D := D) (mny := mny) (N := N j) (x := x) hj16 (by omega) h23 e1 ho6 e3 i1 (j2 o ho6) (by have := hm9 o ho6; omega) (by omega) (by omega)
                refine lv_aload_n hx hb dL_isRenewed_96 rfl (lv_at hl 3 rfl) ?_
                refine lv_bipush (v := 32) hx hb dL_isRenewed_97 (by decide) ?_
                refine lv_iload_n hx hb dL_isRenewed_99 rfl (lv_at hl 5 rfl) ?_
                refine lv_iadd hx hb dL_isRenewed_100 ?_
                refine gtop (y := nI (32 + j)) (nI_add 32 j) ?_
                refine giald (j := (32 + j)) hx hb hK hP 0 0 rfl rfl (show (nI (32 + j) : Int32) = nI (32 + j) from rfl) (by omega) (by decide) dL_isRenewed_101 ?_
                refine gtop (y := nI (e9 + 10)) (show ta (32 + j) = nI (e9 + 10) by rw [n2.2.2.1, sDay_H (s := 3) (by omega) (by omega) c53 e3, show e9 + 10 * 3 - 20 = e9 + 10 by omega]) ?_
                refine lv_aload_n hx hb dL_isRenewed_102 rfl (lv_at hl 3 rfl) ?_
                refine lv_iload_n hx hb dL_isRenewed_103 rfl (lv_at hl 5 rfl) ?_
                refine giald (j := j) hx hb hK hP 0 0 rfl rfl (show (nI j : Int32) = nI j from rfl) (by omega) (by decide) dL_isRenewed_104 ?_
                refine gtop (y := N j 0) n2.1 ?_
                refine lv_iconst (v := 3) hx hb dL_isRenewed_105 (by decide) ?_
                refine lv_icmp_ne (tgt := 114) hx hb dL_isRenewed_106 (by decide) (fun c106 => ?_) (fun c106 => ?_)
                · exact absurd c53 c106
                · skip
                  refine lv_bipush (v := 10) hx hb dL_isRenewed_109 (by decide) ?_
                  refine lv_goto (tgt := 115) hx hb dL_isRenewed_111 (by decide) ?_
                  refine lv_isub hx hb dL_isRenewed_115 ?_
                  refine gtop (y := nI e9) ((pk_sub (a := e9 + 10) (b := 10) (by omega)).trans (congrArg nI (by omega))) ?_
                  refine lv_bipush (v := 100) hx hb dL_isRenewed_116 (by decide) ?_
                  refine lv_iload hx hb dL_isRenewed_118 (lv_at hl 6 rfl) ?_
                  refine lv_imul hx hb dL_isRenewed_120 ?_
                  refine gtop (y := nI (100 * x)) (pk_mul 100 x) ?_
                  refine lv_iadd hx hb dL_isRenewed_121 ?_
                  refine gtop (y := nI (e9 + (100 * x))) (nI_add e9 (100 * x)) ?_
                  refine lv_istore (lv' := [(7, .int (nI (e9 + (100 * x)))), (6, .int 1), (5, .int 1), (0, .ref (Ad 1)), (1, .ref (Ad 5)), (2, .ref (Ad 8)), (3, .int (nI j)), (4, .int (nI x))]) hx hb dL_isRenewed_122 hl (by decide) rfl (fun ls hl => ?_)
                  refine lv_aload_n hx hb dL_isRenewed_124 rfl (lv_at hl 3 rfl) ?_
                  refine lv_aload_n hx hb dL_isRenewed_125 rfl (lv_at hl 4 rfl) ?_
                  refine lv_bipush (v := 16) hx hb dL_isRenewed_126 (by decide) ?_
                  refine lv_iload_n hx hb dL_isRenewed_128 rfl (lv_at hl 6 rfl) ?_
                  refine lv_iadd hx hb dL_isRenewed_129 ?_
                  refine gtop (y := nI (16 + j)) (nI_add 16 j) ?_
                  refine giald (j := (16 + j)) hx hb hK hP 0 0 rfl rfl (show (nI (16 + j) : Int32) = nI (16 + j) from rfl) (by omega) (by decide) dL_isRenewed_130 ?_
                  refine gtop (y := nI o) (n2.2.1.trans e1) ?_
                  refine gciT (X := wX4 T Ad ta ca fa ga) (va_runV (As := [.int (nI o)]) (rest := []) ⟨hx, hb, hml, hown, hts⟩ (cX2_funds_c l hl0 G T Ad AF D mny N f g rk rf rg rh o _ (by omega)) (cwV 1 hts gL_isRenewed_X2_funds rfl rfl rfl (by decide +kernel) ⟨Nat.le_of_ble_eq_true rfl, Nat.le_of_ble_eq_true rfl⟩) ⟨gblind, va_recv hK hP (ci := 2) (q0 := 4) rfl rfl, gpreT (X := wX4 T Ad ta ca fa ga) hE hK hP hD hS hA⟩ rfl rfl hl.1 rfl (lv_room (Nat.le_of_ble_eq_true rfl)) dL_isRenewed_131 ⟨Nat.le_of_ble_eq_true rfl, Nat.le_of_ble_eq_true rfl⟩) hP hD hS hA wC_fst (fun r9 H locs hw hP hD hS => ?_)
                  have hP : va_P G vwCl (wW T Ad AF ta ca fa ga D mny N f g rk rf rg rh) H := hP
                  have hD : va_D (va_A (wW T Ad AF ta ca fa ga D mny N f g rk rf rg rh) s.heap.size) (wW T Ad AF ta ca fa ga D mny N f g rk rf rg rh) := hD
                  subst hw
                  refine gtop (y := nI (m9 o)) (j2 o ho6) ?_
                  refine lv_istore (lv' := [(8, .int (nI (m9 o))), (7, .int (nI (e9 + (100 * x)))), (6, .int 1), (5, .int 1), (0, .ref (Ad 1)), (1, .ref (Ad 5)), (2, .ref (Ad 8)), (3, .int (nI j)), (4, .int (nI x))]) hx hb dL_isRenewed_134 hl (by decide) rfl (fun ls hl => ?_)
                  refine lv_iload hx hb dL_isRenewed_136 (lv_at hl 1 rfl) ?_
                  refine lv_aload_n hx hb dL_isRenewed_138 rfl (lv_at hl 6 rfl) ?_
                  refine lv_iconst (v := 0) hx hb dL_isRenewed_139 (by decide) ?_
                  refine giald (j := 0) hx hb hK hP 3 0 rfl rfl (show (0 : Int32) = nI 0 from rfl) (by omega) (by decide) dL_isRenewed_140 ?_
                  refine gtop (y := nI d) i2 ?_
                  refine lv_sipush (v := 600) hx hb dL_isRenewed_141 (by decide) ?_
                  refine lv_iadd hx hb dL_isRenewed_144 ?_
                  refine gtop (y := nI (d + 600)) (nI_add d 600) ?_
                  refine lv_icmp_gt (tgt := 162) hx hb dL_isRenewed_145 (by decide) (fun c145 => ?_) (fun c145 => ?_)
                  · skip
                    have hend : d + 600 < e9 + 100 * x := Nat.not_le.mp (fun q9 => nI_nlt q9 (by omega) c145)
                    refine lv_iconst (v := 0) hx hb dL_isRenewed_162 (by decide) ?_
                    refine lv_istore (lv' := [(9, .int 0), (8, .int (nI (m9 o))), (7, .int (nI (e9 + (100 * x)))), (6, .int 1), (5, .int 1), (0, .ref (Ad 1)), (1, .ref (Ad 5)), (2, .ref (Ad 8)), (3, .int (nI j)), (4, .int (nI x))]) hx hb dL_isRenewed_163 hl (by decide) rfl (fun ls hl => ?_)
                    refine lv_aload_n hx hb dL_isRenewed_165 rfl (lv_at hl 5 rfl) ?_
                    refine lv_iconst (v := 2) hx hb dL_isRenewed_166 (by decide) ?_
                    refine lv_iload_n hx hb dL_isRenewed_167 rfl (lv_at hl 8 rfl) ?_
                    refine lv_iload hx hb dL_isRenewed_168 (lv_at hl 9 rfl) ?_
                    refine lv_iconst (v := 0) hx hb dL_isRenewed_170 (by decide) ?_
                    refine gciT (X := wX4 T Ad ta ca fa ga) (vx_runSW (As := [.ref (Ad 1), .int 2, .int (nI j), .int (nI x), .int 0]) (rest := []) ⟨hx, hb, hml, hown, hts⟩ (cL_does_2_noc l hl0 G T Ad AF D mny N f g rk rf rg rh j (nI j) (nI x) 0 _ (by omega) (fun _ => ⟨rfl, hj16⟩) (fun h9 => absurd (h9.symm.trans (hkr.trans (by rw [if_pos hend]))) (by decide))) (vx_cwSW 5 hts gL_isRenewed_L_does rfl rfl rfl (by decide +kernel) ⟨Nat.le_of_ble_eq_true rfl, Nat.le_of_ble_eq_true rfl⟩) ⟨gblind, gpreT (X := wX4 T Ad ta ca fa ga) hE hK hP hD hS hA⟩ rfl rfl hl.1 rfl (lv_room (Nat.le_of_ble_eq_true rfl)) dL_isRenewed_171 ⟨Nat.le_of_ble_eq_true rfl, Nat.le_of_ble_eq_true rfl⟩) hP hD hS hA wC_fst (fun r9 H locs hw hP hD hS => ?_)
                    have hP : va_P G vwCl (wW T Ad AF ta ca fa ga D mny N f g rk rf rg rh) H := hP
                    have hD : va_D (va_A (wW T Ad AF ta ca fa ga D mny N f g rk rf rg rh) s.heap.size) (wW T Ad AF ta ca fa ga D mny N f g rk rf rg rh) := hD
                    subst hw
                    refine gtop (y := (-10)) (wD_10 (hkr.trans (by rw [if_pos hend]))) ?_
                    refine lv_iload hx hb dL_isRenewed_174 (lv_at hl 0 rfl) ?_
                    refine lv_if_eq (tgt := 184) hx hb dL_isRenewed_176 (by decide) (fun c176 => ?_) (fun c176 => ?_)
                    · skip
                      refine lv_bipush (v := (-10)) hx hb dL_isRenewed_184 (by decide) ?_
                      refine lv_icmp_ne (tgt := 223) hx hb dL_isRenewed_186 (by decide) (fun c186 => ?_) (fun c186 => ?_)
                      · exact absurd c186 (by decide)
                      · skip
                        refine lv_aload_n hx hb dL_isRenewed_189 rfl (lv_at hl 5 rfl) ?_
                        refine lv_aload_n hx hb dL_isRenewed_190 rfl (lv_at hl 6 rfl) ?_
                        refine lv_bipush (v := 16) hx hb dL_isRenewed_191 (by decide) ?_
                        refine lv_iload_n hx hb dL_isRenewed_193 rfl (lv_at hl 8 rfl) ?_
                        refine lv_iadd hx hb dL_isRenewed_194 ?_
                        refine gtop (y := nI (16 + j)) (nI_add 16 j) ?_
                        refine giald (j := (16 + j)) hx hb hK hP 0 0 rfl rfl (show (nI (16 + j) : Int32) = nI (16 + j) from rfl) (by omega) (by decide) dL_isRenewed_195 ?_
                        refine gtop (y := nI o) (n2.2.1.trans e1) ?_
                        refine gciT (X := wX4 T Ad ta ca fa ga) (va_runV (As := [.int (nI o)]) (rest := []) ⟨hx, hb, hml, hown, hts⟩ (cX2_funds_c l hl0 G T Ad AF D mny N f g rk rf rg rh o _ (by omega)) (cwV 1 hts gL_isRenewed_X2_funds rfl rfl rfl (by decide +kernel) ⟨Nat.le_of_ble_eq_true rfl, Nat.le_of_ble_eq_true rfl⟩) ⟨gblind, va_recv hK hP (ci := 2) (q0 := 4) rfl rfl, gpreT (X := wX4 T Ad ta ca fa ga) hE hK hP hD hS hA⟩ rfl rfl hl.1 rfl (lv_room (Nat.le_of_ble_eq_true rfl)) dL_isRenewed_196 ⟨Nat.le_of_ble_eq_true rfl, Nat.le_of_ble_eq_true rfl⟩) hP hD hS hA wC_fst (fun r9 H locs hw hP hD hS => ?_)
                        have hP : va_P G vwCl (wW T Ad AF ta ca fa ga D mny N f g rk rf rg rh) H := hP
                        have hD : va_D (va_A (wW T Ad AF ta ca fa ga D mny N f g rk rf rg rh) s.heap.size) (wW T Ad AF ta ca fa ga D mny N f g rk rf rg rh) := hD
                        subst hw
                        refine gtop (y := nI (m9 o)) (j2 o ho6) ?_
                        refine lv_iload hx hb dL_isRenewed_199 (lv_at hl 1 rfl) ?_
                        refine lv_iload hx hb dL_isRenewed_201 (lv_at hl 0 rfl) ?_
                        refine lv_if_eq (tgt := 214) hx hb dL_isRenewed_203 (by decide) (fun c203 => ?_) (fun c203 => ?_)
                        · skip
                          refine lv_iconst (v := 0) hx hb dL_isRenewed_214 (by decide) ?_
                          refine lv_isub hx hb dL_isRenewed_215 ?_
                          refine gtop (y := nI (m9 o)) (Int32.sub_zero _) ?_
                          refine lv_icmp_ne (tgt := 223) hx hb dL_isRenewed_216 (by decide) (fun c216 => ?_) (fun c216 => ?_)
                          · exact absurd rfl c216
                          · skip
                            refine lv_iconst (v := 1) hx hb dL_isRenewed_219 (by decide) ?_
                            refine lv_goto (tgt := 224) hx hb dL_isRenewed_220 (by decide) ?_
                            refine lv_istore (lv' := [(10, .int 1), (9, .int 0), (8, .int (nI (m9 o))), (7, .int (nI (e9 + (100 * x)))), (6, .int 1), (5, .int 1), (0, .ref (Ad 1)), (1, .ref (Ad 5)), (2, .ref (Ad 8)), (3, .int (nI j)), (4, .int (nI x))]) hx hb dL_isRenewed_224 hl (by decide) rfl (fun ls hl => ?_)
                            refine lv_iload hx hb dL_isRenewed_226 (lv_at hl 1 rfl) ?_
                            refine lv_if_eq (tgt := 243) hx hb dL_isRenewed_228 (by decide) (fun c228 => ?_) (fun c228 => ?_)
                            · skip
                              refine lv_iload hx hb dL_isRenewed_243 (lv_at hl 0 rfl) ?_
                              refine W.widen (k := 6) (n := 36) (Nat.le_of_ble_eq_true rfl) (Nat.le_of_ble_eq_true rfl) ?_
                              exact W.zret (v := 1) hx hb hr (by decide) (fun w9 ht9 hW => ⟨⟨1, (D, mny, N, f, g, rk, rf, rg, rh, ta, ca, fa, ga), rfl, ⟨rfl, hI⟩, gBi ht9 (gfin hP (rfl))⟩, hS.F ht9⟩) hS.2.2 dL_isRenewed_245
                            · exact absurd c228 (by decide)
                        · exact absurd c203 (by decide)
                    · exact absurd c176 (by decide)
                  · skip
                    have hend : e9 + 100 * x ≤ d + 600 := Nat.not_lt.mp (fun q9 => c145 (nI_lt q9 (by omega)))
                    refine lv_iload hx hb dL_isRenewed_148 (lv_at hl 0 rfl) ?_
                    refine lv_bipush (v := 20) hx hb dL_isRenewed_150 (by decide) ?_
                    refine lv_iload hx hb dL_isRenewed_152 (lv_at hl 8 rfl) ?_
                    refine lv_imul hx hb dL_isRenewed_154 ?_
                    refine gtop (y := nI (20 * x)) (pk_mul 20 x) ?_
                    refine lv_icmp_lt (tgt := 162) hx hb dL_isRenewed_155 (by decide) (fun c155 => ?_) (fun c155 => ?_)
                    · skip
                      have hpay : m9 o < 20 * x := Nat.not_le.mp (fun q9 => nI_nlt q9 (by have := hm9 o ho6; omega) c155)
                      refine lv_iconst (v := 0) hx hb dL_isRenewed_162 (by decide) ?_
                      refine lv_istore (lv' := [(9, .int 0), (8, .int (nI (m9 o))), (7, .int (nI (e9 + (100 * x)))), (6, .int 1), (5, .int 1), (0, .ref (Ad 1)), (1, .ref (Ad 5)), (2, .ref (Ad 8)), (3, .int (nI j)), (4, .int (nI x))]) hx hb dL_isRenewed_163 hl (by decide) rfl (fun ls hl => ?_)
                      refine lv_aload_n hx hb dL_isRenewed_165 rfl (lv_at hl 5 rfl) ?_
                      refine lv_iconst (v := 2) hx hb dL_isRenewed_166 (by decide) ?_
                      refine lv_iload_n hx hb dL_isRenewed_167 rfl (lv_at hl 8 rfl) ?_
                      refine lv_iload hx hb dL_isRenewed_168 (lv_at hl 9 rfl) ?_
                      refine lv_iconst (v := 0) hx hb dL_isRenewed_170 (by decide) ?_
                      refine gciT (X := wX4 T Ad ta ca fa ga) (vx_runSW (As := [.ref (Ad 1), .int 2, .int (nI j), .int (nI x), .int 0]) (rest := []) ⟨hx, hb, hml, hown, hts⟩ (cL_does_2_noc l hl0 G T Ad AF D mny N f g rk rf rg rh j (nI j) (nI x) 0 _ (by omega) (fun _ => ⟨rfl, hj16⟩) (fun h9 => absurd (h9.symm.trans (hkr.trans (by rw [if_neg (by omega), if_pos hpay]))) (by decide))) (vx_cwSW 5 hts gL_isRenewed_L_does rfl rfl rfl (by decide +kernel) ⟨Nat.le_of_ble_eq_true rfl, Nat.le_of_ble_eq_true rfl⟩) ⟨gblind, gpreT (X := wX4 T Ad ta ca fa ga) hE hK hP hD hS hA⟩ rfl rfl hl.1 rfl (lv_room (Nat.le_of_ble_eq_true rfl)) dL_isRenewed_171 ⟨Nat.le_of_ble_eq_true rfl, Nat.le_of_ble_eq_true rfl⟩) hP hD hS hA wC_fst (fun r9 H locs hw hP hD hS => ?_)
                      have hP : va_P G vwCl (wW T Ad AF ta ca fa ga D mny N f g rk rf rg rh) H := hP
                      have hD : va_D (va_A (wW T Ad AF ta ca fa ga D mny N f g rk rf rg rh) s.heap.size) (wW T Ad AF ta ca fa ga D mny N f g rk rf rg rh) := hD
                      subst hw
                      refine gtop (y := (-10)) (wD_10 (hkr.trans (by rw [if_neg (by omega), if_pos hpay]))) ?_
                      refine lv_iload hx hb dL_isRenewed_174 (lv_at hl 0 rfl) ?_
                      refine lv_if_eq (tgt := 184) hx hb dL_isRenewed_176 (by decide) (fun c176 => ?_) (fun c176 => ?_)
                      · skip
                        refine lv_bipush (v := (-10)) hx hb dL_isRenewed_184 (by decide) ?_
                        refine lv_icmp_ne (tgt := 223) hx hb dL_isRenewed_186 (by decide) (fun c186 => ?_) (fun c186 => ?_)
                        · exact absurd c186 (by decide)
                        · skip
                          refine lv_aload_n hx hb dL_isRenewed_189 rfl (lv_at hl 5 rfl) ?_
                          refine lv_aload_n hx hb dL_isRenewed_190 rfl (lv_at hl 6 rfl) ?_
                          refine lv_bipush (v := 16) hx hb dL_isRenewed_191 (by decide) ?_
                          refine lv_iload_n hx hb dL_isRenewed_193 rfl (lv_at hl 8 rfl) ?_
                          refine lv_iadd hx hb dL_isRenewed_194 ?_
                          refine gtop (y := nI (16 + j)) (nI_add 16 j) ?_
                          refine giald (j := (16 + j)) hx hb hK hP 0 0 rfl rfl (show (nI (16 + j) : Int32) = nI (16 + j) from rfl) (by omega) (by decide) dL_isRenewed_195 ?_
                          refine gtop (y := nI o) (n2.2.1.trans e1) ?_
                          refine gciT (X := wX4 T Ad ta ca fa ga) (va_runV (As := [.int (nI o)]) (rest := []) ⟨hx, hb, hml, hown, hts⟩ (cX2_funds_c l hl0 G T Ad AF D mny N f g rk rf rg rh o _ (by omega)) (cwV 1 hts gL_isRenewed_X2_funds rfl rfl rfl (by decide +kernel) ⟨Nat.le_of_ble_eq_true rfl, Nat.le_of_ble_eq_true rfl⟩) ⟨gblind, va_recv hK hP (ci := 2) (q0 := 4) rfl rfl, gpreT (X := wX4 T Ad ta ca fa ga) hE hK hP hD hS hA⟩ rfl rfl hl.1 rfl (lv_room (Nat.le_of_ble_eq_true rfl)) dL_isRenewed_196 ⟨Nat.le_of_ble_eq_true rfl, Nat.le_of_ble_eq_true rfl⟩) hP hD hS hA wC_fst (fun r9 H locs hw hP hD hS => ?_)
                          have hP : va_P G vwCl (wW T Ad AF ta ca fa ga D mny N f g rk rf rg rh) H := hP
                          have hD : va_D (va_A (wW T Ad AF ta ca fa ga D mny N f g rk rf rg rh) s.heap.size) (wW T Ad AF ta ca fa ga D mny N f g rk rf rg rh) := hD
                          subst hw
                          refine gtop (y := nI (m9 o)) (j2 o ho6) ?_
                          refine lv_iload hx hb dL_isRenewed_199 (lv_at hl 1 rfl) ?_
                          refine lv_iload hx hb dL_isRenewed_201 (lv_at hl 0 rfl) ?_
                          refine lv_if_eq (tgt := 214) hx hb dL_isRenewed_203 (by decide) (fun c203 => ?_) (fun c203 => ?_)
                          · skip
                            refine lv_iconst (v := 0) hx hb dL_isRenewed_214 (by decide) ?_
                            refine lv_isub hx hb dL_isRenewed_215 ?_
                            refine gtop (y := nI (m9 o)) (Int32.sub_zero _) ?_
                            refine lv_icmp_ne (tgt := 223) hx hb dL_isRenewed_216 (by decide) (fun c216 => ?_) (fun c216 => ?_)
                            · exact absurd rfl c216
                            · skip
                              refine lv_iconst (v := 1) hx hb dL_isRenewed_219 (by decide) ?_
                              refine lv_goto (tgt := 224) hx hb dL_isRenewed_220 (by decide) ?_
                              refine lv_istore (lv' := [(10, .int 1), (9, .int 0), (8, .int (nI (m9 o))), (7, .int (nI (e9 + (100 * x)))), (6, .int 1), (5, .int 1), (0, .ref (Ad 1)), (1, .ref (Ad 5)), (2, .ref (Ad 8)), (3, .int (nI j)), (4, .int (nI x))]) hx hb dL_isRenewed_224 hl (by decide) rfl (fun ls hl => ?_)
                              refine lv_iload hx hb dL_isRenewed_226 (lv_at hl 1 rfl) ?_
                              refine lv_if_eq (tgt := 243) hx hb dL_isRenewed_228 (by decide) (fun c228 => ?_) (fun c228 => ?_)
                              · skip
                                refine lv_iload hx hb dL_isRenewed_243 (lv_at hl 0 rfl) ?_
                                refine W.widen (k := 6) (n := 36) (Nat.le_of_ble_eq_true rfl) (Nat.le_of_ble_eq_true rfl) ?_
                                exact W.zret (v := 1) hx hb hr (by decide) (fun w9 ht9 hW => ⟨⟨1, (D, mny, N, f, g, rk, rf, rg, rh, ta, ca, fa, ga), rfl, ⟨rfl, hI⟩, gBi ht9 (gfin hP (rfl))⟩, hS.F ht9⟩) hS.2.2 dL_isRenewed_245
                              · exact absurd c228 (by decide)
                          · exact absurd c203 (by decide)
                      · exact absurd c176 (by decide)
                    · skip
                      have hpay : 20 * x ≤ m9 o := Nat.not_lt.mp (fun q9 => c155 (nI_lt q9 (by omega)))
                      refine lv_iconst (v := 1) hx hb dL_isRenewed_158 (by decide) ?_
                      refine lv_goto (tgt := 163) hx hb dL_isRenewed_159 (by decide) ?_
                      refine lv_istore (lv' := [(9, .int 1), (8, .int (nI (m9 o))), (7, .int (nI (e9 + (100 * x)))), (6, .int 1), (5, .int 1), (0, .ref (Ad 1)), (1, .ref (Ad 5)), (2, .ref (Ad 8)), (3, .int (nI j)), (4, .int (nI x))]) hx hb dL_isRenewed_163 hl (by decide) rfl (fun ls hl => ?_)
                      refine lv_aload_n hx hb dL_isRenewed_165 rfl (lv_at hl 5 rfl) ?_
                      refine lv_iconst (v := 2) hx hb dL_isRenewed_166 (by decide) ?_
                      refine lv_iload_n hx hb dL_isRenewed_167 rfl (lv_at hl 8 rfl) ?_
                      refine lv_iload hx hb dL_isRenewed_168 (lv_at hl 9 rfl) ?_
                      refine lv_iconst (v := 0) hx hb dL_isRenewed_170 (by decide) ?_
                      refine gciT (X := wX4 T Ad ta ca fa ga) (vx_runSW (As := [.ref (Ad 1), .int 2, .int (nI j), .int (nI x), .int 0]) (rest := []) ⟨hx, hb, hml, hown, hts⟩ (cL_does_2_okc l hl0 G T Ad AF D mny N f g rk rf rg rh j (nI x) 0 _ (by omega) (hkr.trans (by rw [if_neg (by omega), if_neg (by omega)]))) (vx_cwSW 5 hts gL_isRenewed_L_does rfl rfl rfl (by decide +kernel) ⟨Nat.le_of_ble_eq_true rfl, Nat.le_of_ble_eq_true rfl⟩) ⟨gblind, gpreT (X := wX4 T Ad ta ca fa ga) hE hK hP hD hS hA⟩ rfl rfl hl.1 rfl (lv_room (Nat.le_of_ble_eq_true rfl)) dL_isRenewed_171 ⟨Nat.le_of_ble_eq_true rfl, Nat.le_of_ble_eq_true rfl⟩) hP hD hS hA wC_fst (fun r9 H locs hw hP hD hS => ?_)
                      have hP : va_P G vwCl (wW T Ad AF ta ca fa ga (sPayD D mny ((N j) 1) ((nI x) * 20)) (sPayF mny ((N j) 1) ((nI x) * 20)) (updA N j (upd (upd (N j) 3 ((N j) 3 + (nI x) * 100)) 0 2)) f g rk rf rg rh) H := hP
                      have hD : va_D (va_A (wW T Ad AF ta ca fa ga D mny N f g rk rf rg rh) s.heap.size) (wW T Ad AF ta ca fa ga (sPayD D mny ((N j) 1) ((nI x) * 20)) (sPayF mny ((N j) 1) ((nI x) * 20)) (updA N j (upd (upd (N j) 3 ((N j) 3 + (nI x) * 100)) 0 2)) f g rk rf rg rh) := hD
                      subst hw
                      refine gtop (y := nI (e9 + (100 * x))) (by rw [e3, nI_100, nI_add]) ?_
                      refine lv_iload hx hb dL_isRenewed_174 (lv_at hl 0 rfl) ?_
                      refine lv_if_eq (tgt := 184) hx hb dL_isRenewed_176 (by decide) (fun c176 => ?_) (fun c176 => ?_)
                      · exact absurd c176 (by decide)
                      · skip
                        refine lv_iload hx hb dL_isRenewed_179 (lv_at hl 2 rfl) ?_
                        refine lv_goto (tgt := 186) hx hb dL_isRenewed_181 (by decide) ?_
                        refine lv_icmp_ne (tgt := 223) hx hb dL_isRenewed_186 (by decide) (fun c186 => ?_) (fun c186 => ?_)
                        · exact absurd rfl c186
                        · skip
                          refine lv_aload_n hx hb dL_isRenewed_189 rfl (lv_at hl 5 rfl) ?_
                          refine lv_aload_n hx hb dL_isRenewed_190 rfl (lv_at hl 6 rfl) ?_
                          refine lv_bipush (v := 16) hx hb dL_isRenewed_191 (by decide) ?_
                          refine lv_iload_n hx hb dL_isRenewed_193 rfl (lv_at hl 8 rfl) ?_
                          refine lv_iadd hx hb dL_isRenewed_194 ?_
                          refine gtop (y := nI (16 + j)) (nI_add 16 j) ?_
                          refine giald (j := (16 + j)) hx hb hK hP 0 0 rfl rfl (show (nI (16 + j) : Int32) = nI (16 + j) from rfl) (by omega) (by decide) dL_isRenewed_195 ?_
                          refine gtop (y := nI o) (n2.2.1.trans e1) ?_
                          refine gciT (X := wX4 T Ad ta ca fa ga) (va_runV (As := [.int (nI o)]) (rest := []) ⟨hx, hb, hml, hown, hts⟩ (cX2_funds_c l hl0 G T Ad AF (sPayD D mny ((N j) 1) ((nI x) * 20)) (sPayF mny ((N j) 1) ((nI x) * 20)) (updA N j (upd (upd (N j) 3 ((N j) 3 + (nI x) * 100)) 0 2)) f g rk rf rg rh o _ (by omega)) (cwV 1 hts gL_isRenewed_X2_funds rfl rfl rfl (by decide +kernel) ⟨Nat.le_of_ble_eq_true rfl, Nat.le_of_ble_eq_true rfl⟩) ⟨gblind, va_recv hK hP (ci := 2) (q0 := 4) rfl rfl, gpreT (X := wX4 T Ad ta ca fa ga) hE hK hP hD hS hA⟩ rfl rfl hl.1 rfl (lv_room (Nat.le_of_ble_eq_true rfl)) dL_isRenewed_196 ⟨Nat.le_of_ble_eq_true rfl, Nat.le_of_ble_eq_true rfl⟩) hP hD hS hA wC_fst (fun r9 H locs hw hP hD hS => ?_)
                          have hP : va_P G vwCl (wW T Ad AF ta ca fa ga (sPayD D mny ((N j) 1) ((nI x) * 20)) (sPayF mny ((N j) 1) ((nI x) * 20)) (updA N j (upd (upd (N j) 3 ((N j) 3 + (nI x) * 100)) 0 2)) f g rk rf rg rh) H := hP
                          have hD : va_D (va_A (wW T Ad AF ta ca fa ga D mny N f g rk rf rg rh) s.heap.size) (wW T Ad AF ta ca fa ga (sPayD D mny ((N j) 1) ((nI x) * 20)) (sPayF mny ((N j) 1) ((nI x) * 20)) (updA N j (upd (upd (N j) 3 ((N j) 3 + (nI x) * 100)) 0 2)) f g rk rf rg rh) := hD
                          subst hw
                          refine gtop (y := nI (m9 o - 20 * x)) (by rw [e1, nI_20, (sPay_n (D := D) ho6 (j2 o ho6) (by have := hm9 o ho6; omega) hpay).2, upd_at]) ?_
                          refine lv_iload hx hb dL_isRenewed_199 (lv_at hl 1 rfl) ?_
                          refine lv_iload hx hb dL_isRenewed_201 (lv_at hl 0 rfl) ?_
                          refine lv_if_eq (tgt := 214) hx hb dL_isRenewed_203 (by decide) (fun c203 => ?_) (fun c203 => ?_)
                          · exact absurd c203 (by decide)
                          · skip
                            refine lv_bipush (v := 20) hx hb dL_isRenewed_206 (by decide) ?_
                            refine lv_iload hx hb dL_isRenewed_208 (lv_at hl 9 rfl) ?_
                            refine lv_imul hx hb dL_isRenewed_210 ?_
                            refine gtop (y := nI (20 * x)) (pk_mul 20 x) ?_
                            refine lv_goto (tgt := 215) hx hb dL_isRenewed_211 (by decide) ?_
                            refine lv_isub hx hb dL_isRenewed_215 ?_
                            refine gtop (y := nI (m9 o - 20 * x)) (pk_sub hpay) ?_
                            refine lv_icmp_ne (tgt := 223) hx hb dL_isRenewed_216 (by decide) (fun c216 => ?_) (fun c216 => ?_)
                            · exact absurd rfl c216
                            · skip
                              refine lv_iconst (v := 1) hx hb dL_isRenewed_219 (by decide) ?_
                              refine lv_goto (tgt := 224) hx hb dL_isRenewed_220 (by decide) ?_
                              refine lv_istore (lv' := [(10, .int 1), (9, .int 1), (8, .int (nI (m9 o))), (7, .int (nI (e9 + (100 * x)))), (6, .int 1), (5, .int 1), (0, .ref (Ad 1)), (1, .ref (Ad 5)), (2, .ref (Ad 8)), (3, .int (nI j)), (4, .int (nI x))]) hx hb dL_isRenewed_224 hl (by decide) rfl (fun ls hl => ?_)
                              refine lv_iload hx hb dL_isRenewed_226 (lv_at hl 1 rfl) ?_
                              refine lv_if_eq (tgt := 243) hx hb dL_isRenewed_228 (by decide) (fun c228 => ?_) (fun c228 => ?_)
                              · exact absurd c228 (by decide)
                              · skip
                                refine lv_aload_n hx hb dL_isRenewed_231 rfl (lv_at hl 7 rfl) ?_
                                refine lv_iload_n hx hb dL_isRenewed_232 rfl (lv_at hl 9 rfl) ?_
                                refine lv_iconst (v := 2) hx hb dL_isRenewed_233 (by decide) ?_
                                refine giast (j := j) hx hb hK hP hD hS 0 0 rfl rfl (show (nI j : Int32) = nI j from rfl) (by omega) (by decide) dL_isRenewed_234 (fun H locs hP hD hS => ?_)
                                have hP : va_P G vwCl (wW T Ad AF (upd ta j 2) ca fa ga (sPayD D mny ((N j) 1) ((nI x) * 20)) (sPayF mny ((N j) 1) ((nI x) * 20)) (updA N j (upd (upd (N j) 3 ((N j) 3 + (nI x) * 100)) 0 2)) f g rk rf rg rh) H := hP
                                have hD : va_D (va_A (wW T Ad AF ta ca fa ga D mny N f g rk rf rg rh) s.heap.size) (wW T Ad AF (upd ta j 2) ca fa ga (sPayD D mny ((N j) 1) ((nI x) * 20)) (sPayF mny ((N j) 1) ((nI x) * 20)) (updA N j (upd (upd (N j) 3 ((N j) 3 + (nI x) * 100)) 0 2)) f g rk rf rg rh) := hD
                                refine lv_aload_n hx hb dL_isRenewed_235 rfl (lv_at hl 7 rfl) ?_
                                refine lv_bipush (v := 32) hx hb dL_isRenewed_236 (by decide) ?_
                                refine lv_iload_n hx hb dL_isRenewed_238 rfl (lv_at hl 9 rfl) ?_
                                refine lv_iadd hx hb dL_isRenewed_239 ?_
                                refine gtop (y := nI (32 + j)) (nI_add 32 j) ?_
                                refine lv_iload hx hb dL_isRenewed_240 (lv_at hl 3 rfl) ?_
                                refine giast (j := (32 + j)) hx hb hK hP hD hS 0 0 rfl rfl (show (nI (32 + j) : Int32) = nI (32 + j) from rfl) (by omega) (by decide) dL_isRenewed_242 (fun H locs hP hD hS => ?_)
                                have hP : va_P G vwCl (wW T Ad AF (upd (upd ta j 2) (32 + j) (nI (e9 + (100 * x)))) ca fa ga (sPayD D mny ((N j) 1) ((nI x) * 20)) (sPayF mny ((N j) 1) ((nI x) * 20)) (updA N j (upd (upd (N j) 3 ((N j) 3 + (nI x) * 100)) 0 2)) f g rk rf rg rh) H := hP
                                have hD : va_D (va_A (wW T Ad AF ta ca fa ga D mny N f g rk rf rg rh) s.heap.size) (wW T Ad AF (upd (upd ta j 2) (32 + j) (nI (e9 + (100 * x)))) ca fa ga (sPayD D mny ((N j) 1) ((nI x) * 20)) (sPayF mny ((N j) 1) ((nI x) * 20)) (updA N j (upd (upd (N j) 3 ((N j) 3 + (nI x) * 100)) 0 2)) f g rk rf rg rh) := hD
                                refine lv_iload hx hb dL_isRenewed_243 (lv_at hl 0 rfl) ?_
                                refine W.widen (k := 6) (n := 36) (Nat.le_of_ble_eq_true rfl) (Nat.le_of_ble_eq_true rfl) ?_
                                have hI9 : INV d a (sPayD D mny ((N j) 1) ((nI x) * 20)) (sPayF mny ((N j) 1) ((nI x) * 20)) (updA N j (upd (upd (N j) 3 ((N j) 3 + (nI x) * 100)) 0 2)) f rk rf rg rh (upd (upd ta j 2) (32 + j) (nI (e9 + (100 * x)))) ca fa ga := INV.renew hI hj16 (by omega) (Or.inr rfl) c53 e1 ho6 e3 he1 hend hz j1 j2 j3 (by omega) hpay
                                exact W.zret (v := 1) hx hb hr (by decide) (fun w9 ht9 hW => ⟨⟨1, ((sPayD D mny ((N j) 1) ((nI x) * 20)), (sPayF mny ((N j) 1) ((nI x) * 20)), (updA N j (upd (upd (N j) 3 ((N j) 3 + (nI x) * 100)) 0 2)), f, g, rk, rf, rg, rh, (upd (upd ta j 2) (32 + j) (nI (e9 + (100 * x)))), ca, fa, ga), rfl, ⟨rfl, hI9⟩, gBi ht9 (gfin hP (rfl))⟩, hS.F ht9⟩) hS.2.2 dL_isRenewed_245
              · skip
                refine lv_aload_n hx hb dL_isRenewed_56 rfl (lv_at hl 2 rfl) ?_
                refine lv_iconst (v := 2) hx hb dL_isRenewed_57 (by decide) ?_
                refine lv_iload_n hx hb dL_isRenewed_58 rfl (lv_at hl 5 rfl) ?_
                refine lv_iload hx hb dL_isRenewed_59 (lv_at hl 6 rfl) ?_
                refine lv_iconst (v := 0) hx hb dL_isRenewed_61 (by decide) ?_
                refine gciT (X := wX4 T Ad ta ca fa ga) (vx_runSW (As := [.ref (Ad 1), .int 2, .int (nI j), .int (nI x), .int 0]) (rest := []) ⟨hx, hb, hml, hown, hts⟩ (cL_does_2_noc l hl0 G T Ad AF D mny N f g rk rf rg rh j (nI j) (nI x) 0 _ hj16 (fun _ => ⟨rfl, hj16⟩) (fun h9 => absurd (h9.symm.trans (show kRenew D mny (N j) (nI j) (nI x) = 3 by rw [kRenew_n (by omega) (by omega), if_pos hj16, if_pos (by omega), if_pos (sHeld_n c46 c53)])) (by decide))) (vx_cwSW 5 hts gL_isRenewed_L_does rfl rfl rfl (by decide +kernel) ⟨Nat.le_of_ble_eq_true rfl, Nat.le_of_ble_eq_true rfl⟩) ⟨gblind, gpreT (X := wX4 T Ad ta ca fa ga) hE hK hP hD hS hA⟩ rfl rfl hl.1 rfl (lv_room (Nat.le_of_ble_eq_true rfl)) dL_isRenewed_62 ⟨Nat.le_of_ble_eq_true rfl, Nat.le_of_ble_eq_true rfl⟩) hP hD hS hA wC_fst (fun r9 H locs hw hP hD hS => ?_)
                have hP : va_P G vwCl (wW T Ad AF ta ca fa ga D mny N f g rk rf rg rh) H := hP
                have hD : va_D (va_A (wW T Ad AF ta ca fa ga D mny N f g rk rf rg rh) s.heap.size) (wW T Ad AF ta ca fa ga D mny N f g rk rf rg rh) := hD
                subst hw
                refine gtop (y := (-10)) (wD_10 (show kRenew D mny (N j) (nI j) (nI x) = 3 by rw [kRenew_n (by omega) (by omega), if_pos hj16, if_pos (by omega), if_pos (sHeld_n c46 c53)])) ?_
                refine lv_iload hx hb dL_isRenewed_65 (lv_at hl 1 rfl) ?_
                refine lv_if_ne (tgt := 75) hx hb dL_isRenewed_67 (by decide) (fun c67 => ?_) (fun c67 => ?_)
                · skip
                  refine lv_iload hx hb dL_isRenewed_75 (lv_at hl 0 rfl) ?_
                  refine lv_if_ne (tgt := 85) hx hb dL_isRenewed_77 (by decide) (fun c77 => ?_) (fun c77 => ?_)
                  · skip
                    refine lv_bipush (v := (-10)) hx hb dL_isRenewed_85 (by decide) ?_
                    refine lv_icmp_ne (tgt := 94) hx hb dL_isRenewed_87 (by decide) (fun c87 => ?_) (fun c87 => ?_)
                    · exact absurd c87 (by decide)
                    · skip
                      refine lv_iconst (v := 1) hx hb dL_isRenewed_90 (by decide) ?_
                      refine lv_goto (tgt := 95) hx hb dL_isRenewed_91 (by decide) ?_
                      refine W.widen (k := 6) (n := 36) (Nat.le_of_ble_eq_true rfl) (Nat.le_of_ble_eq_true rfl) ?_
                      exact W.zret (v := 1) hx hb hr (by decide) (fun w9 ht9 hW => ⟨⟨1, (D, mny, N, f, g, rk, rf, rg, rh, ta, ca, fa, ga), rfl, ⟨rfl, hI⟩, gBi ht9 (gfin hP (rfl))⟩, hS.F ht9⟩) hS.2.2 dL_isRenewed_95
                  · exact absurd c77 (by decide)
                · exact absurd c67 (by decide)
