/-! THE LAW'S METHODS: isRedeemed -/
theorem kRedeem_h {mny N : Nat → Int32} {j o q : Nat} (hj : j < 16) (h0 : N 0 = 4) (h1 : N 1 = nI o) (ho : o < 6) (hm : mny o = nI q) (hq : q < 2 ^ 30) : kRedeem mny N (nI j) = if q < 50 then 3 else 0 := by
  rw [kRedeem_n (by omega), if_pos hj, if_pos h0, h1, show sCan mny (nI o) 50 = _ from sCan_n (y := 50) ho hm (by omega) (by omega)]
  by_cases a2 : q < 50
  · rw [if_pos a2, if_pos a2, if_pos rfl]
  · rw [if_neg a2, if_neg a2, if_neg (by decide)]
theorem INV.redeem {d a j o p : Nat} {m : Nat → Nat} {D mny : Nat → Int32} {N f : Nat → Nat → Int32} {rk rf rg rh : Nat → Nat → Int32} {t c F G : Nat → Int32} (h : INV d a D mny N f rk rf rg rh t c F G) (hj : j < 16) (h1 : N j 1 = nI o) (ho : o < 6) (hp : D 4 = nI p) (hm : ∀ k, k < 6 → mny k = nI (m k)) (hsum : psum p m 6 = a) (ha : a < 2 ^ 30) (hpay : 50 ≤ m o) :
    INV d a (sPayD D mny (N j 1) 50) (sPayF mny (N j 1) 50) (updA N j (upd (upd (upd (upd (upd (N j) 0 2) 1 (N j 1)) 3 (sPayD D mny (N j 1) 50 3 + 100)) 4 0) 5 10)) (updA f j (fun _ => 0)) rk rf rg rh (upd (upd t j 2) (32 + j) (nI (d + 100))) (upd (upd c j 0) (16 + j) 10) F G := by
  obtain ⟨i1, i2, i3, i4, i5, i6, i7⟩ := id h
  obtain ⟨n1, n2, n3, n4, n5, n6, r, r1, r2⟩ := i5 j hj
  have hmo : m o < 2 ^ 31 := by have := psum_le (p := p) (m := m) ho; omega
  obtain ⟨y1, y2⟩ := sPay_n (D := D) (y := 50) ho (hm o ho) hmo hpay
  have e50 : nI 50 = (50 : Int32) := rfl
  rw [e50] at y1 y2
  rw [h1, y1, y2]
  have e3 : upd D 4 (D 4 + 50) 3 + 100 = nI (d + 100) := (congrArg (· + (100 : Int32)) i1).trans (nI_add d 100)
  rw [e3]
  refine INV.one h rfl (MI.pay hp hm hsum ho hpay (by rw [upd_at, hp]; exact nI_add p 50) (upd_at _ _ _) (fun k hk => upd_no hk)) rfl i4 rfl (fun k hk => updA_no hk) (fun k hk => updA_no hk) (fun k hk hne => ⟨?_, ?_, ?_, ?_, ?_, ?_⟩) ?_ ?_
  · rw [upd_no (by omega), upd_no (by omega)]
  · rw [upd_no (by omega), upd_no (by omega)]
  · rw [upd_no (by omega), upd_no (by omega)]
  · rw [upd_no (by omega), upd_no (by omega)]
  · rw [upd_no (by omega), upd_no (by omega)]
  · rw [upd_no (by omega), upd_no (by omega)]
  · rw [updA_at, updA_at]
    exact NI.mkH (s := 2) (e := d + 100) (o := o) (by omega) (by omega) ho (by omega) (by omega) rfl rfl rfl (fun _ _ => rfl)
  · rw [updA_at]
    refine ⟨?_, ?_, ?_, fun z => ⟨?_, ?_⟩, fun z => ?_, 0, by omega, rfl⟩
    · rw [upd_no (by omega), upd_at]; rfl
    · rw [upd_no (by omega), upd_no (by omega), n3, h1]; rfl
    · rw [upd_at]
      have := sDay_H (N := upd (upd (upd (upd (upd (N j) 0 2) 1 (nI o)) 3 (nI (d + 100))) 4 0) 5 10) (s := 2) (e := d + 100) (by omega) (by omega) rfl rfl
      rw [this]
      congr 1
    · rw [upd_no (by omega), upd_at]; rfl
    · rw [upd_at]; rfl
    · exact absurd (show (2 : Int32) = 5 from z) (by decide)
abbrev PL_isRedeemed (G : va_G) (T : Nat → ClassId) (Ad : Nat → Nat) (AF : Nat → Nat → Nat) (D mny : Nat → Int32) (N f g : Nat → Nat → Int32) (rk rf rg rh : Nat → Nat → Int32) (ta ca fa ga : Nat → Int32) (j d a : Nat) (sz : Nat) : Array Value → State → Prop := gPc G T [.ref (Ad 1), .ref (Ad 5), .ref (Ad 6), .ref (Ad 8), .int (nI j)] (wW T Ad AF ta ca fa ga D mny N f g rk rf rg rh) sz
abbrev QL_isRedeemed (G : va_G) (T : Nat → ClassId) (Ad : Nat → Nat) (AF : Nat → Nat → Nat) (D mny : Nat → Int32) (N f g : Nat → Nat → Int32) (rk rf rg rh : Nat → Nat → Int32) (ta ca fa ga : Nat → Int32) (j d a : Nat) (sz : Nat) : Array Value → State → Outcome → State → Prop := va_Qi (fun (r : Int32) (u : UL) => r = 1 ∧ INVu d a u) (fun (u : UL) (w9 : State) => va_P G vwCl (wW T Ad AF u.2.2.2.2.2.2.2.2.2.1 u.2.2.2.2.2.2.2.2.2.2.1 u.2.2.2.2.2.2.2.2.2.2.2.1 u.2.2.2.2.2.2.2.2.2.2.2.2 u.1 u.2.1 u.2.2.1 u.2.2.2.1 u.2.2.2.2.1 u.2.2.2.2.2.1 u.2.2.2.2.2.2.1 u.2.2.2.2.2.2.2.1 u.2.2.2.2.2.2.2.2.1) w9.heap) (va_A (wW T Ad AF ta ca fa ga D mny N f g rk rf rg rh) sz)
set_option maxHeartbeats 4000000 in
set_option maxRecDepth 100000 in
theorem kL_isRedeemed (l : Launch) (hl0 : l.stackTraces = false) (G : va_G) (T : Nat → ClassId) (Ad : Nat → Nat) (AF : Nat → Nat → Nat) (D mny : Nat → Int32) (N f g : Nat → Nat → Int32) (rk rf rg rh : Nat → Nat → Int32) (ta ca fa ga : Nat → Int32) (j d a : Nat) (sz : Nat) (hI : INV d a D mny N f rk rf rg rh ta ca fa ga) (hd : d < 2 ^ 20) (ha : a < 2 ^ 20) (hnj : j < 4 ∨ j = 16) : Met l yL_isRedeemed wsL_isRedeemed ({ frames := 9, cells := 4, slots := 24, locals := 149 } : Room) (PL_isRedeemed G T Ad AF D mny N f g rk rf rg rh ta ca fa ga j d a sz) (QL_isRedeemed G T Ad AF D mny N f g rk rf rg rh ta ca fa ga j d a sz) 4 24 (va_A (wW T Ad AF ta ca fa ga D mny N f g rk rf rg rh) sz) := by
  refine Met.ofW (cc := cL_isRedeemed) (maxL := 7) (ret := (some .boolean)) (by decide) rfl ?_
  intro p e s m args below meth c s₁ B hml hv
  obtain ⟨rfl, hsz, hP, hK, hD0, hE⟩ := hv
  have hx := B.exec
  have hb := B.bytes
  have hr := B.returns
  have hts := atoms_spec (ws := wsL_isRedeemed) B.pre
  have hown : s.vm.findClass RL = some m.cls := findClass_of_methodNamed B.named
  have hlocks := B.notSynchronized
  subst hsz
  have hD := hD0.self (sz := s.heap.size)
  have hA : ∀ q : Nat, s.heap.size ≤ q → (va_A (wW T Ad AF ta ca fa ga D mny N f g rk rf rg rh) s.heap.size) q := fun q h => Or.inr h
  have hS : va_S (va_A (wW T Ad AF ta ca fa ga D mny N f g rk rf rg rh) s.heap.size) s.heap s.heap [] := va_S.rf
  have hl := lv_entry ([.ref (Ad 1), .ref (Ad 5), .ref (Ad 6), .ref (Ad 8), .int (nI j)]) (n := 7) (Nat.le_of_ble_eq_true rfl)
  rw [lg_entry_eq]
  generalize (lg_sl ([.ref (Ad 1), .ref (Ad 5), .ref (Ad 6), .ref (Ad 8), .int (nI j)]) ++ List.replicate (7 - (lg_sl ([.ref (Ad 1), .ref (Ad 5), .ref (Ad 6), .ref (Ad 8), .int (nI j)])).length) Slot.unset).toArray = ls at hl ⊢
  have hl : lv_has ls 7 [(0, .ref (Ad 1)), (1, .ref (Ad 5)), (2, .ref (Ad 6)), (3, .ref (Ad 8)), (4, .int (nI j))] := hl
  obtain ⟨i1, i2, ⟨m9, p9, j1, j2, j3⟩, i4, i5, i6, i7⟩ := id hI
  have hp9 : p9 < 2 ^ 20 := Nat.lt_of_le_of_lt psum_p (by rw [j3]; exact ha)
  have hm9 : ∀ k, k < 6 → m9 k < 2 ^ 20 := fun k hk => by have := psum_le (p := p9) (m := m9) hk; omega
  have hP : va_P G vwCl (wW T Ad AF ta ca fa ga D mny N f g rk rf rg rh) s.heap := hP
  refine lv_iload hx hb dL_isRedeemed_0 (lv_at hl 4 rfl) ?_
  refine lv_bipush (v := 16) hx hb dL_isRedeemed_2 (by decide) ?_
  refine lv_icmp_eq (tgt := 15) hx hb dL_isRedeemed_4 (by decide) (fun c4 => ?_) (fun c4 => ?_)
  · skip
    have hj9 : j = 16 := nI_inj (b := 16) (by omega) (by omega) c4
    refine lv_aload_n hx hb dL_isRedeemed_15 rfl (lv_at hl 0 rfl) ?_
    refine lv_iconst (v := 3) hx hb dL_isRedeemed_16 (by decide) ?_
    refine lv_iload hx hb dL_isRedeemed_17 (lv_at hl 4 rfl) ?_
    refine lv_iconst (v := 0) hx hb dL_isRedeemed_19 (by decide) ?_
    refine lv_iconst (v := 0) hx hb dL_isRedeemed_20 (by decide) ?_
    refine gciT (X := wX4 T Ad ta ca fa ga) (vx_runSW (As := [.ref (Ad 1), .int 3, .int (nI j), .int 0, .int 0]) (rest := []) ⟨hx, hb, hml, hown, hts⟩ (cL_does_3_noc l hl0 G T Ad AF D mny N f g rk rf rg rh (j % 16) (nI j) 0 0 _ (Nat.mod_lt _ (by decide)) (ix16 (by omega)) (fun h9 => absurd (h9.symm.trans (show kRedeem mny (N (j % 16)) (nI j) = 1 by rw [kRedeem_n (by omega), if_neg (by omega)])) (by decide))) (vx_cwSW 5 hts gL_isRedeemed_L_does rfl rfl rfl (by decide +kernel) ⟨Nat.le_of_ble_eq_true rfl, Nat.le_of_ble_eq_true rfl⟩) ⟨gblind, gpreT (X := wX4 T Ad ta ca fa ga) hE hK hP hD hS hA⟩ rfl rfl hl.1 rfl (lv_room (Nat.le_of_ble_eq_true rfl)) dL_isRedeemed_21 ⟨Nat.le_of_ble_eq_true rfl, Nat.le_of_ble_eq_true rfl⟩) hP hD hS hA wC_fst (fun r9 H locs hw hP hD hS => ?_)
    have hP : va_P G vwCl (wW T Ad AF ta ca fa ga D mny N f g rk rf rg rh) H := hP
    have hD : va_D (va_A (wW T Ad AF ta ca fa ga D mny N f g rk rf rg rh) s.heap.size) (wW T Ad AF ta ca fa ga D mny N f g rk rf rg rh) := hD
    subst hw
    refine gtop (y := (-30)) (wD_30 (show kRedeem mny (N (j % 16)) (nI j) = 1 by rw [kRedeem_n (by omega), if_neg (by omega)])) ?_
    refine lv_iload hx hb dL_isRedeemed_24 (lv_at hl 4 rfl) ?_
    refine lv_bipush (v := 16) hx hb dL_isRedeemed_26 (by decide) ?_
    refine lv_icmp_ne (tgt := 36) hx hb dL_isRedeemed_28 (by decide) (fun c28 => ?_) (fun c28 => ?_)
    · exact absurd c4 c28
    · skip
      refine lv_bipush (v := (-30)) hx hb dL_isRedeemed_31 (by decide) ?_
      refine lv_goto (tgt := 38) hx hb dL_isRedeemed_33 (by decide) ?_
      refine lv_icmp_ne (tgt := 45) hx hb dL_isRedeemed_38 (by decide) (fun c38 => ?_) (fun c38 => ?_)
      · exact absurd c38 (by decide)
      · skip
        refine lv_iconst (v := 1) hx hb dL_isRedeemed_41 (by decide) ?_
        refine lv_goto (tgt := 46) hx hb dL_isRedeemed_42 (by decide) ?_
        refine W.widen (k := 4) (n := 24) (Nat.le_of_ble_eq_true rfl) (Nat.le_of_ble_eq_true rfl) ?_
        exact W.zret (v := 1) hx hb hr (by decide) (fun w9 ht9 hW => ⟨⟨1, (D, mny, N, f, g, rk, rf, rg, rh, ta, ca, fa, ga), rfl, ⟨rfl, hI⟩, gBi ht9 (gfin hP (rfl))⟩, hS.F ht9⟩) hS.2.2 dL_isRedeemed_46
  · skip
    have hj16 : j < 16 := by
      rcases hnj with q9 | q9
      · omega
      · exact absurd (congrArg nI q9) c4
    obtain ⟨n1, n2⟩ := i5 j hj16
    refine lv_aload_n hx hb dL_isRedeemed_7 rfl (lv_at hl 1 rfl) ?_
    refine lv_iload hx hb dL_isRedeemed_8 (lv_at hl 4 rfl) ?_
    refine giald (j := j) hx hb hK hP 0 0 rfl rfl (show (nI j : Int32) = nI j from rfl) (by omega) (by decide) dL_isRedeemed_10 ?_
    refine gtop (y := N j 0) n2.1 ?_
    refine lv_iconst (v := 4) hx hb dL_isRedeemed_11 (by decide) ?_
    refine lv_icmp_eq (tgt := 47) hx hb dL_isRedeemed_12 (by decide) (fun c12 => ?_) (fun c12 => ?_)
    · skip
      obtain ⟨e9, o, ho6, he1, he2, e1, e3, hz⟩ := n1.atH (s := 4) c12 (by omega) (by omega)
      have hkr := kRedeem_h (mny := mny) (N := N j) hj16 c12 e1 ho6 (j2 o ho6) (by have := hm9 o ho6; omega)
      refine lv_aload_n hx hb dL_isRedeemed_47 rfl (lv_at hl 0 rfl) ?_
      refine lv_aload_n hx hb dL_isRedeemed_48 rfl (lv_at hl 1 rfl) ?_
      refine lv_bipush (v := 16) hx hb dL_isRedeemed_49 (by decide) ?_
      refine lv_iload hx hb dL_isRedeemed_51 (lv_at hl 4 rfl) ?_
      refine lv_iadd hx hb dL_isRedeemed_53 ?_
      refine gtop (y := nI (16 + j)) (nI_add 16 j) ?_
      refine giald (j := (16 + j)) hx hb hK hP 0 0 rfl rfl (show (nI (16 + j) : Int32) = nI (16 + j) from rfl) (by omega) (by decide) dL_isRedeemed_54 ?_
      refine gtop (y := nI o) (n2.2.1.trans e1) ?_
      refine gciT (X := wX4 T Ad ta ca fa ga) (va_runV (As := [.int (nI o)]) (rest := []) ⟨hx, hb, hml, hown, hts⟩ (cX2_funds_c l hl0 G T Ad AF D mny N f g rk rf rg rh o _ (by omega)) (cwV 1 hts gL_isRedeemed_X2_funds rfl rfl rfl (by decide +kernel) ⟨Nat.le_of_ble_eq_true rfl, Nat.le_of_ble_eq_true rfl⟩) ⟨gblind, va_recv hK hP (ci := 2) (q0 := 4) rfl rfl, gpreT (X := wX4 T Ad ta ca fa ga) hE hK hP hD hS hA⟩ rfl rfl hl.1 rfl (lv_room (Nat.le_of_ble_eq_true rfl)) dL_isRedeemed_55 ⟨Nat.le_of_ble_eq_true rfl, Nat.le_of_ble_eq_true rfl⟩) hP hD hS hA wC_fst (fun r9 H locs hw hP hD hS => ?_)
      have hP : va_P G vwCl (wW T Ad AF ta ca fa ga D mny N f g rk rf rg rh) H := hP
      have hD : va_D (va_A (wW T Ad AF ta ca fa ga D mny N f g rk rf rg rh) s.heap.size) (wW T Ad AF ta ca fa ga D mny N f g rk rf rg rh) := hD
      subst hw
      refine gtop (y := nI (m9 o)) (j2 o ho6) ?_
      refine lv_istore (lv' := [(5, .int (nI (m9 o))), (0, .ref (Ad 1)), (1, .ref (Ad 5)), (2, .ref (Ad 6)), (3, .ref (Ad 8)), (4, .int (nI j))]) hx hb dL_isRedeemed_58 hl (by decide) rfl (fun ls hl => ?_)
      refine lv_iload hx hb dL_isRedeemed_60 (lv_at hl 0 rfl) ?_
      refine lv_bipush (v := 49) hx hb dL_isRedeemed_62 (by decide) ?_
      refine lv_icmp_le (tgt := 71) hx hb dL_isRedeemed_64 (by decide) (fun c64 => ?_) (fun c64 => ?_)
      · skip
        have hpay : m9 o ≤ 49 := Nat.not_lt.mp (fun q9 => nI_ge (a := 49) q9 (by have := hm9 o ho6; omega) c64)
        refine lv_iconst (v := 0) hx hb dL_isRedeemed_71 (by decide) ?_
        refine lv_istore (lv' := [(6, .int 0), (5, .int (nI (m9 o))), (0, .ref (Ad 1)), (1, .ref (Ad 5)), (2, .ref (Ad 6)), (3, .ref (Ad 8)), (4, .int (nI j))]) hx hb dL_isRedeemed_72 hl (by decide) rfl (fun ls hl => ?_)
        refine lv_iload hx hb dL_isRedeemed_74 (lv_at hl 0 rfl) ?_
        refine lv_if_eq (tgt := 111) hx hb dL_isRedeemed_76 (by decide) (fun c76 => ?_) (fun c76 => ?_)
        · skip
          refine lv_aload_n hx hb dL_isRedeemed_111 rfl (lv_at hl 2 rfl) ?_
          refine lv_iconst (v := 3) hx hb dL_isRedeemed_112 (by decide) ?_
          refine lv_iload hx hb dL_isRedeemed_113 (lv_at hl 6 rfl) ?_
          refine lv_iconst (v := 0) hx hb dL_isRedeemed_115 (by decide) ?_
          refine lv_iconst (v := 0) hx hb dL_isRedeemed_116 (by decide) ?_
          refine gciT (X := wX4 T Ad ta ca fa ga) (vx_runSW (As := [.ref (Ad 1), .int 3, .int (nI j), .int 0, .int 0]) (rest := []) ⟨hx, hb, hml, hown, hts⟩ (cL_does_3_noc l hl0 G T Ad AF D mny N f g rk rf rg rh j (nI j) 0 0 _ (by omega) (fun _ => ⟨rfl, hj16⟩) (fun h9 => absurd (h9.symm.trans (hkr.trans (by rw [if_pos (by omega)]))) (by decide))) (vx_cwSW 5 hts gL_isRedeemed_L_does rfl rfl rfl (by decide +kernel) ⟨Nat.le_of_ble_eq_true rfl, Nat.le_of_ble_eq_true rfl⟩) ⟨gblind, gpreT (X := wX4 T Ad ta ca fa ga) hE hK hP hD hS hA⟩ rfl rfl hl.1 rfl (lv_room (Nat.le_of_ble_eq_true rfl)) dL_isRedeemed_117 ⟨Nat.le_of_ble_eq_true rfl, Nat.le_of_ble_eq_true rfl⟩) hP hD hS hA wC_fst (fun r9 H locs hw hP hD hS => ?_)
          have hP : va_P G vwCl (wW T Ad AF ta ca fa ga D mny N f g rk rf rg rh) H := hP
          have hD : va_D (va_A (wW T Ad AF ta ca fa ga D mny N f g rk rf rg rh) s.heap.size) (wW T Ad AF ta ca fa ga D mny N f g rk rf rg rh) := hD
          subst hw
          refine gtop (y := (-10)) (wD_10 (hkr.trans (by rw [if_pos (by omega)]))) ?_
          refine lv_iload hx hb dL_isRedeemed_120 (lv_at hl 0 rfl) ?_
          refine lv_if_eq (tgt := 134) hx hb dL_isRedeemed_122 (by decide) (fun c122 => ?_) (fun c122 => ?_)
          · skip
            refine lv_bipush (v := (-10)) hx hb dL_isRedeemed_134 (by decide) ?_
            refine lv_icmp_ne (tgt := 171) hx hb dL_isRedeemed_136 (by decide) (fun c136 => ?_) (fun c136 => ?_)
            · exact absurd c136 (by decide)
            · skip
              refine lv_aload_n hx hb dL_isRedeemed_139 rfl (lv_at hl 2 rfl) ?_
              refine lv_aload_n hx hb dL_isRedeemed_140 rfl (lv_at hl 3 rfl) ?_
              refine lv_bipush (v := 16) hx hb dL_isRedeemed_141 (by decide) ?_
              refine lv_iload hx hb dL_isRedeemed_143 (lv_at hl 6 rfl) ?_
              refine lv_iadd hx hb dL_isRedeemed_145 ?_
              refine gtop (y := nI (16 + j)) (nI_add 16 j) ?_
              refine giald (j := (16 + j)) hx hb hK hP 0 0 rfl rfl (show (nI (16 + j) : Int32) = nI (16 + j) from rfl) (by omega) (by decide) dL_isRedeemed_146 ?_
              refine gtop (y := nI o) (by first | exact n2.2.1.trans e1 | (rw [upd_no (by omega), upd_no (by omega)]; exact n2.2.1.trans e1)) ?_
              refine gciT (X := wX4 T Ad ta ca fa ga) (va_runV (As := [.int (nI o)]) (rest := []) ⟨hx, hb, hml, hown, hts⟩ (cX2_funds_c l hl0 G T Ad AF D mny N f g rk rf rg rh o _ (by omega)) (cwV 1 hts gL_isRedeemed_X2_funds rfl rfl rfl (by decide +kernel) ⟨Nat.le_of_ble_eq_true rfl, Nat.le_of_ble_eq_true rfl⟩) ⟨gblind, va_recv hK hP (ci := 2) (q0 := 4) rfl rfl, gpreT (X := wX4 T Ad ta ca fa ga) hE hK hP hD hS hA⟩ rfl rfl hl.1 rfl (lv_room (Nat.le_of_ble_eq_true rfl)) dL_isRedeemed_147 ⟨Nat.le_of_ble_eq_true rfl, Nat.le_of_ble_eq_true rfl⟩) hP hD hS hA wC_fst (fun r9 H locs hw hP hD hS => ?_)
              have hP : va_P G vwCl (wW T Ad AF ta ca fa ga D mny N f g rk rf rg rh) H := hP
              have hD : va_D (va_A (wW T Ad AF ta ca fa ga D mny N f g rk rf rg rh) s.heap.size) (wW T Ad AF ta ca fa ga D mny N f g rk rf rg rh) := hD
              subst hw
              refine gtop (y := nI (m9 o)) (j2 o ho6) ?_
              refine lv_iload hx hb dL_isRedeemed_150 (lv_at hl 1 rfl) ?_
              refine lv_iload hx hb dL_isRedeemed_152 (lv_at hl 0 rfl) ?_
              refine lv_if_eq (tgt := 162) hx hb dL_isRedeemed_154 (by decide) (fun c154 => ?_) (fun c154 => ?_)
              · skip
                refine lv_iconst (v := 0) hx hb dL_isRedeemed_162 (by decide) ?_
                refine lv_isub hx hb dL_isRedeemed_163 ?_
                refine gtop (y := nI (m9 o)) (Int32.sub_zero _) ?_
                refine lv_icmp_ne (tgt := 171) hx hb dL_isRedeemed_164 (by decide) (fun c164 => ?_) (fun c164 => ?_)
                · exact absurd rfl c164
                · skip
                  refine lv_iconst (v := 1) hx hb dL_isRedeemed_167 (by decide) ?_
                  refine lv_goto (tgt := 172) hx hb dL_isRedeemed_168 (by decide) ?_
                  refine W.widen (k := 4) (n := 24) (Nat.le_of_ble_eq_true rfl) (Nat.le_of_ble_eq_true rfl) ?_
                  exact W.zret (v := 1) hx hb hr (by decide) (fun w9 ht9 hW => ⟨⟨1, (D, mny, N, f, g, rk, rf, rg, rh, ta, ca, fa, ga), rfl, ⟨rfl, hI⟩, gBi ht9 (gfin hP (rfl))⟩, hS.F ht9⟩) hS.2.2 dL_isRedeemed_172
              · exact absurd c154 (by decide)
          · exact absurd c122 (by decide)
        · exact absurd c76 (by decide)
      · skip
        have hpay : 49 < m9 o := Nat.not_le.mp (fun q9 => c64 (nI_le (b := 49) q9 (by omega)))
        refine lv_iconst (v := 1) hx hb dL_isRedeemed_67 (by decide) ?_
        refine lv_goto (tgt := 72) hx hb dL_isRedeemed_68 (by decide) ?_
        refine lv_istore (lv' := [(6, .int 1), (5, .int (nI (m9 o))), (0, .ref (Ad 1)), (1, .ref (Ad 5)), (2, .ref (Ad 6)), (3, .ref (Ad 8)), (4, .int (nI j))]) hx hb dL_isRedeemed_72 hl (by decide) rfl (fun ls hl => ?_)
        refine lv_iload hx hb dL_isRedeemed_74 (lv_at hl 0 rfl) ?_
        refine lv_if_eq (tgt := 111) hx hb dL_isRedeemed_76 (by decide) (fun c76 => ?_) (fun c76 => ?_)
        · exact absurd c76 (by decide)
        · skip
          refine lv_aload_n hx hb dL_isRedeemed_79 rfl (lv_at hl 3 rfl) ?_
          refine lv_iload hx hb dL_isRedeemed_80 (lv_at hl 6 rfl) ?_
          refine lv_iconst (v := 2) hx hb dL_isRedeemed_82 (by decide) ?_
          refine giast (j := j) hx hb hK hP hD hS 0 0 rfl rfl (show (nI j : Int32) = nI j from rfl) (by omega) (by decide) dL_isRedeemed_83 (fun H locs hP hD hS => ?_)
          have hP : va_P G vwCl (wW T Ad AF (upd ta j 2) ca fa ga D mny N f g rk rf rg rh) H := hP
          have hD : va_D (va_A (wW T Ad AF ta ca fa ga D mny N f g rk rf rg rh) s.heap.size) (wW T Ad AF (upd ta j 2) ca fa ga D mny N f g rk rf rg rh) := hD
          refine lv_aload_n hx hb dL_isRedeemed_84 rfl (lv_at hl 3 rfl) ?_
          refine lv_bipush (v := 32) hx hb dL_isRedeemed_85 (by decide) ?_
          refine lv_iload hx hb dL_isRedeemed_87 (lv_at hl 6 rfl) ?_
          refine lv_iadd hx hb dL_isRedeemed_89 ?_
          refine gtop (y := nI (32 + j)) (nI_add 32 j) ?_
          refine lv_aload_n hx hb dL_isRedeemed_90 rfl (lv_at hl 5 rfl) ?_
          refine lv_iconst (v := 0) hx hb dL_isRedeemed_91 (by decide) ?_
          refine giald (j := 0) hx hb hK hP 3 0 rfl rfl (show (0 : Int32) = nI 0 from rfl) (by omega) (by decide) dL_isRedeemed_92 ?_
          refine gtop (y := nI d) i2 ?_
          refine lv_bipush (v := 100) hx hb dL_isRedeemed_93 (by decide) ?_
          refine lv_iadd hx hb dL_isRedeemed_95 ?_
          refine gtop (y := nI (d + 100)) (nI_add d 100) ?_
          refine giast (j := (32 + j)) hx hb hK hP hD hS 0 0 rfl rfl (show (nI (32 + j) : Int32) = nI (32 + j) from rfl) (by omega) (by decide) dL_isRedeemed_96 (fun H locs hP hD hS => ?_)
          have hP : va_P G vwCl (wW T Ad AF (upd (upd ta j 2) (32 + j) (nI (d + 100))) ca fa ga D mny N f g rk rf rg rh) H := hP
          have hD : va_D (va_A (wW T Ad AF ta ca fa ga D mny N f g rk rf rg rh) s.heap.size) (wW T Ad AF (upd (upd ta j 2) (32 + j) (nI (d + 100))) ca fa ga D mny N f g rk rf rg rh) := hD
          refine lv_aload_n hx hb dL_isRedeemed_97 rfl (lv_at hl 4 rfl) ?_
          refine lv_iload hx hb dL_isRedeemed_98 (lv_at hl 6 rfl) ?_
          refine lv_iconst (v := 0) hx hb dL_isRedeemed_100 (by decide) ?_
          refine giast (j := j) hx hb hK hP hD hS 1 0 rfl rfl (show (nI j : Int32) = nI j from rfl) (by omega) (by decide) dL_isRedeemed_101 (fun H locs hP hD hS => ?_)
          have hP : va_P G vwCl (wW T Ad AF (upd (upd ta j 2) (32 + j) (nI (d + 100))) (upd ca j 0) fa ga D mny N f g rk rf rg rh) H := hP
          have hD : va_D (va_A (wW T Ad AF ta ca fa ga D mny N f g rk rf rg rh) s.heap.size) (wW T Ad AF (upd (upd ta j 2) (32 + j) (nI (d + 100))) (upd ca j 0) fa ga D mny N f g rk rf rg rh) := hD
          refine lv_aload_n hx hb dL_isRedeemed_102 rfl (lv_at hl 4 rfl) ?_
          refine lv_bipush (v := 16) hx hb dL_isRedeemed_103 (by decide) ?_
          refine lv_iload hx hb dL_isRedeemed_105 (lv_at hl 6 rfl) ?_
          refine lv_iadd hx hb dL_isRedeemed_107 ?_
          refine gtop (y := nI (16 + j)) (nI_add 16 j) ?_
          refine lv_bipush (v := 10) hx hb dL_isRedeemed_108 (by decide) ?_
          refine giast (j := (16 + j)) hx hb hK hP hD hS 1 0 rfl rfl (show (nI (16 + j) : Int32) = nI (16 + j) from rfl) (by omega) (by decide) dL_isRedeemed_110 (fun H locs hP hD hS => ?_)
          have hP : va_P G vwCl (wW T Ad AF (upd (upd ta j 2) (32 + j) (nI (d + 100))) (upd (upd ca j 0) (16 + j) 10) fa ga D mny N f g rk rf rg rh) H := hP
          have hD : va_D (va_A (wW T Ad AF ta ca fa ga D mny N f g rk rf rg rh) s.heap.size) (wW T Ad AF (upd (upd ta j 2) (32 + j) (nI (d + 100))) (upd (upd ca j 0) (16 + j) 10) fa ga D mny N f g rk rf rg rh) := hD
          refine lv_aload_n hx hb dL_isRedeemed_111 rfl (lv_at hl 2 rfl) ?_
          refine lv_iconst (v := 3) hx hb dL_isRedeemed_112 (by decide) ?_
          refine lv_iload hx hb dL_isRedeemed_113 (lv_at hl 6 rfl) ?_
          refine lv_iconst (v := 0) hx hb dL_isRedeemed_115 (by decide) ?_
          refine lv_iconst (v := 0) hx hb dL_isRedeemed_116 (by decide) ?_
          refine gciT (X := wX4 T Ad (upd (upd ta j 2) (32 + j) (nI (d + 100))) (upd (upd ca j 0) (16 + j) 10) fa ga) (vx_runSW (As := [.ref (Ad 1), .int 3, .int (nI j), .int 0, .int 0]) (rest := []) ⟨hx, hb, hml, hown, hts⟩ (cL_does_3_okc l hl0 G T Ad AF D mny N f g rk rf rg rh j 0 0 _ (by omega) (hkr.trans (by rw [if_neg (by omega)]))) (vx_cwSW 5 hts gL_isRedeemed_L_does rfl rfl rfl (by decide +kernel) ⟨Nat.le_of_ble_eq_true rfl, Nat.le_of_ble_eq_true rfl⟩) ⟨gblind, gpreT (X := wX4 T Ad (upd (upd ta j 2) (32 + j) (nI (d + 100))) (upd (upd ca j 0) (16 + j) 10) fa ga) hE hK hP hD hS hA⟩ rfl rfl hl.1 rfl (lv_room (Nat.le_of_ble_eq_true rfl)) dL_isRedeemed_117 ⟨Nat.le_of_ble_eq_true rfl, Nat.le_of_ble_eq_true rfl⟩) hP hD hS hA wC_fst (fun r9 H locs hw hP hD hS => ?_)
          have hP : va_P G vwCl (wW T Ad AF (upd (upd ta j 2) (32 + j) (nI (d + 100))) (upd (upd ca j 0) (16 + j) 10) fa ga (sPayD D mny ((N j) 1) 50) (sPayF mny ((N j) 1) 50) (updA N j (upd (upd (upd (upd (upd (N j) 0 2) 1 ((N j) 1)) 3 ((sPayD D mny ((N j) 1) 50) 3 + 100)) 4 0) 5 10)) (updA f j (fun _ => 0)) g rk rf rg rh) H := hP
          have hD : va_D (va_A (wW T Ad AF ta ca fa ga D mny N f g rk rf rg rh) s.heap.size) (wW T Ad AF (upd (upd ta j 2) (32 + j) (nI (d + 100))) (upd (upd ca j 0) (16 + j) 10) fa ga (sPayD D mny ((N j) 1) 50) (sPayF mny ((N j) 1) 50) (updA N j (upd (upd (upd (upd (upd (N j) 0 2) 1 ((N j) 1)) 3 ((sPayD D mny ((N j) 1) 50) 3 + 100)) 4 0) 5 10)) (updA f j (fun _ => 0)) g rk rf rg rh) := hD
          subst hw
          refine gtop (y := nI (d + 100)) (by rw [e1, show sPayD D mny (nI o) 50 = upd D 4 (D 4 + 50) from (sPay_n (D := D) (y := 50) ho6 (j2 o ho6) (by have := hm9 o ho6; omega) (by omega)).1]; exact (congrArg (· + (100 : Int32)) i1).trans (nI_add d 100)) ?_
          refine lv_iload hx hb dL_isRedeemed_120 (lv_at hl 0 rfl) ?_
          refine lv_if_eq (tgt := 134) hx hb dL_isRedeemed_122 (by decide) (fun c122 => ?_) (fun c122 => ?_)
          · exact absurd c122 (by decide)
          · skip
            refine lv_aload_n hx hb dL_isRedeemed_125 rfl (lv_at hl 5 rfl) ?_
            refine lv_iconst (v := 0) hx hb dL_isRedeemed_126 (by decide) ?_
            refine giald (j := 0) hx hb hK hP 3 0 rfl rfl (show (0 : Int32) = nI 0 from rfl) (by omega) (by decide) dL_isRedeemed_127 ?_
            refine gtop (y := nI d) i2 ?_
            refine lv_bipush (v := 100) hx hb dL_isRedeemed_128 (by decide) ?_
            refine lv_iadd hx hb dL_isRedeemed_130 ?_
            refine gtop (y := nI (d + 100)) (nI_add d 100) ?_
            refine lv_goto (tgt := 136) hx hb dL_isRedeemed_131 (by decide) ?_
            refine lv_icmp_ne (tgt := 171) hx hb dL_isRedeemed_136 (by decide) (fun c136 => ?_) (fun c136 => ?_)
            · exact absurd rfl c136
            · skip
              refine lv_aload_n hx hb dL_isRedeemed_139 rfl (lv_at hl 2 rfl) ?_
              refine lv_aload_n hx hb dL_isRedeemed_140 rfl (lv_at hl 3 rfl) ?_
              refine lv_bipush (v := 16) hx hb dL_isRedeemed_141 (by decide) ?_
              refine lv_iload hx hb dL_isRedeemed_143 (lv_at hl 6 rfl) ?_
              refine lv_iadd hx hb dL_isRedeemed_145 ?_
              refine gtop (y := nI (16 + j)) (nI_add 16 j) ?_
              refine giald (j := (16 + j)) hx hb hK hP 0 0 rfl rfl (show (nI (16 + j) : Int32) = nI (16 + j) from rfl) (by omega) (by decide) dL_isRedeemed_146 ?_
              refine gtop (y := nI o) (by first | exact n2.2.1.trans e1 | (rw [upd_no (by omega), upd_no (by omega)]; exact n2.2.1.trans e1)) ?_
              refine gciT (X := wX4 T Ad (upd (upd ta j 2) (32 + j) (nI (d + 100))) (upd (upd ca j 0) (16 + j) 10) fa ga) (va_runV (As := [.int (nI o)]) (rest := []) ⟨hx, hb, hml, hown, hts⟩ (cX2_funds_c l hl0 G T Ad AF (sPayD D mny ((N j) 1) 50) (sPayF mny ((N j) 1) 50) (updA N j (upd (upd (upd (upd (upd (N j) 0 2) 1 ((N j) 1)) 3 ((sPayD D mny ((N j) 1) 50) 3 + 100)) 4 0) 5 10)) (updA f j (fun _ => 0)) g rk rf rg rh o _ (by omega)) (cwV 1 hts gL_isRedeemed_X2_funds rfl rfl rfl (by decide +kernel) ⟨Nat.le_of_ble_eq_true rfl, Nat.le_of_ble_eq_true rfl⟩) ⟨gblind, va_recv hK hP (ci := 2) (q0 := 4) rfl rfl, gpreT (X := wX4 T Ad (upd (upd ta j 2) (32 + j) (nI (d + 100))) (upd (upd ca j 0) (16 + j) 10) fa ga) hE hK hP hD hS hA⟩ rfl rfl hl.1 rfl (lv_room (Nat.le_of_ble_eq_true rfl)) dL_isRedeemed_147 ⟨Nat.le_of_ble_eq_true rfl, Nat.le_of_ble_eq_true rfl⟩) hP hD hS hA wC_fst (fun r9 H locs hw hP hD hS => ?_)
              have hP : va_P G vwCl (wW T Ad AF (upd (upd ta j 2) (32 + j) (nI (d + 100))) (upd (upd ca j 0) (16 + j) 10) fa ga (sPayD D mny ((N j) 1) 50) (sPayF mny ((N j) 1) 50) (updA N j (upd (upd (upd (upd (upd (N j) 0 2) 1 ((N j) 1)) 3 ((sPayD D mny ((N j) 1) 50) 3 + 100)) 4 0) 5 10)) (updA f j (fun _ => 0)) g rk rf rg rh) H := hP
              have hD : va_D (va_A (wW T Ad AF ta ca fa ga D mny N f g rk rf rg rh) s.heap.size) (wW T Ad AF (upd (upd ta j 2) (32 + j) (nI (d + 100))) (upd (upd ca j 0) (16 + j) 10) fa ga (sPayD D mny ((N j) 1) 50) (sPayF mny ((N j) 1) 50) (updA N j (upd (upd (upd (upd (upd (N j) 0 2) 1 ((N j) 1)) 3 ((sPayD D mny ((N j) 1) 50) 3 + 100)) 4 0) 5 10)) (updA f j (fun _ => 0)) g rk rf rg rh) := hD
              subst hw
              refine gtop (y := nI (m9 o - 50)) (by rw [e1, show sPayF mny (nI o) 50 = upd mny o (nI (m9 o - 50)) from (sPay_n (D := D) (y := 50) ho6 (j2 o ho6) (by have := hm9 o ho6; omega) (by omega)).2, upd_at]) ?_
              refine lv_iload hx hb dL_isRedeemed_150 (lv_at hl 1 rfl) ?_
              refine lv_iload hx hb dL_isRedeemed_152 (lv_at hl 0 rfl) ?_
              refine lv_if_eq (tgt := 162) hx hb dL_isRedeemed_154 (by decide) (fun c154 => ?_) (fun c154 => ?_)
              · exact absurd c154 (by decide)
              · skip
                refine lv_bipush (v := 50) hx hb dL_isRedeemed_157 (by decide) ?_
                refine lv_goto (tgt := 163) hx hb dL_isRedeemed_159 (by decide) ?_
                refine lv_isub hx hb dL_isRedeemed_163 ?_
                refine gtop (y := nI (m9 o - 50)) (pk_sub (b := 50) (by omega)) ?_
                refine lv_icmp_ne (tgt := 171) hx hb dL_isRedeemed_164 (by decide) (fun c164 => ?_) (fun c164 => ?_)
                · exact absurd rfl c164
                · skip
                  refine lv_iconst (v := 1) hx hb dL_isRedeemed_167 (by decide) ?_
                  refine lv_goto (tgt := 172) hx hb dL_isRedeemed_168 (by decide) ?_
                  refine W.widen (k := 4) (n := 24) (Nat.le_of_ble_eq_true rfl) (Nat.le_of_ble_eq_true rfl) ?_
                  have hI9 : INV d a (sPayD D mny ((N j) 1) 50) (sPayF mny ((N j) 1) 50) (updA N j (upd (upd (upd (upd (upd (N j) 0 2) 1 ((N j) 1)) 3 ((sPayD D mny ((N j) 1) 50) 3 + 100)) 4 0) 5 10)) (updA f j (fun _ => 0)) rk rf rg rh (upd (upd ta j 2) (32 + j) (nI (d + 100))) (upd (upd ca j 0) (16 + j) 10) fa ga := INV.redeem hI hj16 e1 ho6 j1 j2 j3 (by omega) (by omega)
                  exact W.zret (v := 1) hx hb hr (by decide) (fun w9 ht9 hW => ⟨⟨1, ((sPayD D mny ((N j) 1) 50), (sPayF mny ((N j) 1) 50), (updA N j (upd (upd (upd (upd (upd (N j) 0 2) 1 ((N j) 1)) 3 ((sPayD D mny ((N j) 1) 50) 3 + 100)) 4 0) 5 10)), (updA f j (fun _ => 0)), g, rk, rf, rg, rh, (upd (upd ta j 2) (32 + j) (nI (d + 100))), (upd (upd ca j 0) (16 + j) 10), fa, ga), rfl, ⟨rfl, hI9⟩, gBi ht9 (gfin hP (rfl))⟩, hS.F ht9⟩) hS.2.2 dL_isRedeemed_172
    · skip
      refine lv_aload_n hx hb dL_isRedeemed_15 rfl (lv_at hl 0 rfl) ?_
      refine lv_iconst (v := 3) hx hb dL_isRedeemed_16 (by decide) ?_
      refine lv_iload hx hb dL_isRedeemed_17 (lv_at hl 4 rfl) ?_
      refine lv_iconst (v := 0) hx hb dL_isRedeemed_19 (by decide) ?_
      refine lv_iconst (v := 0) hx hb dL_isRedeemed_20 (by decide) ?_
      refine gciT (X := wX4 T Ad ta ca fa ga) (vx_runSW (As := [.ref (Ad 1), .int 3, .int (nI j), .int 0, .int 0]) (rest := []) ⟨hx, hb, hml, hown, hts⟩ (cL_does_3_noc l hl0 G T Ad AF D mny N f g rk rf rg rh j (nI j) 0 0 _ hj16 (fun _ => ⟨rfl, hj16⟩) (fun h9 => absurd (h9.symm.trans (show kRedeem mny (N j) (nI j) = 3 by rw [kRedeem_n (by omega), if_pos hj16, if_neg c12])) (by decide))) (vx_cwSW 5 hts gL_isRedeemed_L_does rfl rfl rfl (by decide +kernel) ⟨Nat.le_of_ble_eq_true rfl, Nat.le_of_ble_eq_true rfl⟩) ⟨gblind, gpreT (X := wX4 T Ad ta ca fa ga) hE hK hP hD hS hA⟩ rfl rfl hl.1 rfl (lv_room (Nat.le_of_ble_eq_true rfl)) dL_isRedeemed_21 ⟨Nat.le_of_ble_eq_true rfl, Nat.le_of_ble_eq_true rfl⟩) hP hD hS hA wC_fst (fun r9 H locs hw hP hD hS => ?_)
      have hP : va_P G vwCl (wW T Ad AF ta ca fa ga D mny N f g rk rf rg rh) H := hP
      have hD : va_D (va_A (wW T Ad AF ta ca fa ga D mny N f g rk rf rg rh) s.heap.size) (wW T Ad AF ta ca fa ga D mny N f g rk rf rg rh) := hD
      subst hw
      refine gtop (y := (-10)) (wD_10 (show kRedeem mny (N j) (nI j) = 3 by rw [kRedeem_n (by omega), if_pos hj16, if_neg c12])) ?_
      refine lv_iload hx hb dL_isRedeemed_24 (lv_at hl 4 rfl) ?_
      refine lv_bipush (v := 16) hx hb dL_isRedeemed_26 (by decide) ?_
      refine lv_icmp_ne (tgt := 36) hx hb dL_isRedeemed_28 (by decide) (fun c28 => ?_) (fun c28 => ?_)
      · skip
        refine lv_bipush (v := (-10)) hx hb dL_isRedeemed_36 (by decide) ?_
        refine lv_icmp_ne (tgt := 45) hx hb dL_isRedeemed_38 (by decide) (fun c38 => ?_) (fun c38 => ?_)
        · exact absurd c38 (by decide)
        · skip
          refine lv_iconst (v := 1) hx hb dL_isRedeemed_41 (by decide) ?_
          refine lv_goto (tgt := 46) hx hb dL_isRedeemed_42 (by decide) ?_
          refine W.widen (k := 4) (n := 24) (Nat.le_of_ble_eq_true rfl) (Nat.le_of_ble_eq_true rfl) ?_
          exact W.zret (v := 1) hx hb hr (by decide) (fun w9 ht9 hW => ⟨⟨1, (D, mny, N, f, g, rk, rf, rg, rh, ta, ca, fa, ga), rfl, ⟨rfl, hI⟩, gBi ht9 (gfin hP (rfl))⟩, hS.F ht9⟩) hS.2.2 dL_isRedeemed_46
      · exact absurd c28 c4
