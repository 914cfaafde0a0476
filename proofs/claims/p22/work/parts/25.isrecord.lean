/-! THE LAW'S METHODS: isRecord -/
theorem INV.record {d a j x y : Nat} {D mny : Nat → Int32} {N f : Nat → Nat → Int32} {rk rf rg rh : Nat → Nat → Int32} {t c F G : Nat → Int32} (h : INV d a D mny N f rk rf rg rh t c F G) (hj : j < 16) (h0 : N j 0 = 2) (hx : x < 1000) :
    INV d a D mny (updA N j (upd (upd (N j) 4 (nI x)) 5 (nI y))) f rk rf rg rh t (upd (upd c j (nI x)) (16 + j) (nI y)) F G := by
  obtain ⟨i1, i2, i3, i4, i5, i6, i7⟩ := id h
  obtain ⟨n1, n2, n3, n4, n5, n6, r, r1, r2⟩ := i5 j hj
  obtain ⟨e, o, ho, a1, a2, a3, a4, hz⟩ := n1.atH (s := 2) h0 (by omega) (by omega)
  refine INV.one h rfl i3 rfl i4 rfl (fun k hk => updA_no hk) (fun k _ => rfl) (fun k hk hne => ⟨rfl, rfl, rfl, ?_, ?_, ?_⟩) ?_ ?_
  · rw [upd_no (by omega), upd_no (by omega)]
  · rw [upd_no (by omega), upd_no (by omega)]
  · rw [upd_no (by omega), upd_no (by omega)]
  · rw [updA_at]
    exact NI.mkH (s := 2) (by omega) (by omega) ho a1 a2 h0 a3 a4 hz
  · rw [updA_at]
    refine ⟨n2, n3, ?_, fun z => ⟨?_, ?_⟩, fun z => ?_, x, hx, rfl⟩
    · rw [n4, sDay_H (s := 2) (by omega) (by omega) h0 a4, sDay_H (N := upd (upd (N j) 4 (nI x)) 5 (nI y)) (s := 2) (by omega) (by omega) h0 a4]
    · rw [upd_no (by omega), upd_at]; rfl
    · rw [upd_at]; rfl
    · exact absurd (h0.symm.trans z) (by decide)
abbrev PL_isRecord (G : va_G) (T : Nat → ClassId) (Ad : Nat → Nat) (AF : Nat → Nat → Nat) (D mny : Nat → Int32) (N f g : Nat → Nat → Int32) (rk rf rg rh : Nat → Nat → Int32) (ta ca fa ga : Nat → Int32) (j x y d a : Nat) (sz : Nat) : Array Value → State → Prop := gPc G T [.ref (Ad 1), .ref (Ad 5), .ref (Ad 6), .int (nI j), .int (nI x), .int (nI y)] (wW T Ad AF ta ca fa ga D mny N f g rk rf rg rh) sz
abbrev QL_isRecord (G : va_G) (T : Nat → ClassId) (Ad : Nat → Nat) (AF : Nat → Nat → Nat) (D mny : Nat → Int32) (N f g : Nat → Nat → Int32) (rk rf rg rh : Nat → Nat → Int32) (ta ca fa ga : Nat → Int32) (j x y d a : Nat) (sz : Nat) : Array Value → State → Outcome → State → Prop := va_Qi (fun (r : Int32) (u : UL) => r = 1 ∧ INVu d a u) (fun (u : UL) (w9 : State) => va_P G vwCl (wW T Ad AF u.2.2.2.2.2.2.2.2.2.1 u.2.2.2.2.2.2.2.2.2.2.1 u.2.2.2.2.2.2.2.2.2.2.2.1 u.2.2.2.2.2.2.2.2.2.2.2.2 u.1 u.2.1 u.2.2.1 u.2.2.2.1 u.2.2.2.2.1 u.2.2.2.2.2.1 u.2.2.2.2.2.2.1 u.2.2.2.2.2.2.2.1 u.2.2.2.2.2.2.2.2.1) w9.heap) (va_A (wW T Ad AF ta ca fa ga D mny N f g rk rf rg rh) sz)
set_option maxHeartbeats 4000000 in
set_option maxRecDepth 100000 in
theorem kL_isRecord (l : Launch) (hl0 : l.stackTraces = false) (G : va_G) (T : Nat → ClassId) (Ad : Nat → Nat) (AF : Nat → Nat → Nat) (D mny : Nat → Int32) (N f g : Nat → Nat → Int32) (rk rf rg rh : Nat → Nat → Int32) (ta ca fa ga : Nat → Int32) (j x y d a : Nat) (sz : Nat) (hI : INV d a D mny N f rk rf rg rh ta ca fa ga) (hd : d < 2 ^ 20) (ha : a < 2 ^ 20) (hnj : j < 4 ∨ j = 16) (hx0 : x ≤ 1000) (hy0 : y ≤ 51) : Met l yL_isRecord wsL_isRecord ({ frames := 9, cells := 4, slots := 24, locals := 153 } : Room) (PL_isRecord G T Ad AF D mny N f g rk rf rg rh ta ca fa ga j x y d a sz) (QL_isRecord G T Ad AF D mny N f g rk rf rg rh ta ca fa ga j x y d a sz) 4 24 (va_A (wW T Ad AF ta ca fa ga D mny N f g rk rf rg rh) sz) := by
  refine Met.ofW (cc := cL_isRecord) (maxL := 8) (ret := (some .boolean)) (by decide) rfl ?_
  intro p e s m args below meth c s₁ B hml hv
  obtain ⟨rfl, hsz, hP, hK, hD0, hE⟩ := hv
  have hx := B.exec
  have hb := B.bytes
  have hr := B.returns
  have hts := atoms_spec (ws := wsL_isRecord) B.pre
  have hown : s.vm.findClass RL = some m.cls := findClass_of_methodNamed B.named
  have hlocks := B.notSynchronized
  subst hsz
  have hD := hD0.self (sz := s.heap.size)
  have hA : ∀ q : Nat, s.heap.size ≤ q → (va_A (wW T Ad AF ta ca fa ga D mny N f g rk rf rg rh) s.heap.size) q := fun q h => Or.inr h
  have hS : va_S (va_A (wW T Ad AF ta ca fa ga D mny N f g rk rf rg rh) s.heap.size) s.heap s.heap [] := va_S.rf
  have hl := lv_entry ([.ref (Ad 1), .ref (Ad 5), .ref (Ad 6), .int (nI j), .int (nI x), .int (nI y)]) (n := 8) (Nat.le_of_ble_eq_true rfl)
  rw [lg_entry_eq]
  generalize (lg_sl ([.ref (Ad 1), .ref (Ad 5), .ref (Ad 6), .int (nI j), .int (nI x), .int (nI y)]) ++ List.replicate (8 - (lg_sl ([.ref (Ad 1), .ref (Ad 5), .ref (Ad 6), .int (nI j), .int (nI x), .int (nI y)])).length) Slot.unset).toArray = ls at hl ⊢
  have hl : lv_has ls 8 [(0, .ref (Ad 1)), (1, .ref (Ad 5)), (2, .ref (Ad 6)), (3, .int (nI j)), (4, .int (nI x)), (5, .int (nI y))] := hl
  obtain ⟨i1, i2, ⟨m9, p9, j1, j2, j3⟩, i4, i5, i6, i7⟩ := id hI
  have hp9 : p9 < 2 ^ 20 := Nat.lt_of_le_of_lt psum_p (by rw [j3]; exact ha)
  have hm9 : ∀ k, k < 6 → m9 k < 2 ^ 20 := fun k hk => by have := psum_le (p := p9) (m := m9) hk; omega
  have hP : va_P G vwCl (wW T Ad AF ta ca fa ga D mny N f g rk rf rg rh) s.heap := hP
  refine lv_iload hx hb dL_isRecord_0 (lv_at hl 4 rfl) ?_
  refine lv_sipush (v := 1000) hx hb dL_isRecord_2 (by decide) ?_
  refine lv_icmp_ge (tgt := 24) hx hb dL_isRecord_5 (by decide) (fun c5 => ?_) (fun c5 => ?_)
  · skip
    have hx9 : 1000 ≤ x := Nat.not_lt.mp (fun q9 => nI_ge (b := 1000) q9 (by omega) c5)
    refine lv_iconst (v := 0) hx hb dL_isRecord_24 (by decide) ?_
    refine lv_istore (lv' := [(6, .int 0), (0, .ref (Ad 1)), (1, .ref (Ad 5)), (2, .ref (Ad 6)), (3, .int (nI j)), (4, .int (nI x)), (5, .int (nI y))]) hx hb dL_isRecord_25 hl (by decide) rfl (fun ls hl => ?_)
    refine lv_iload_n hx hb dL_isRecord_27 rfl (lv_at hl 4 rfl) ?_
    refine lv_bipush (v := 16) hx hb dL_isRecord_28 (by decide) ?_
    refine lv_icmp_ne (tgt := 38) hx hb dL_isRecord_30 (by decide) (fun c30 => ?_) (fun c30 => ?_)
    · skip
      have hj16 : j < 16 := by
        rcases hnj with q9 | q9
        · omega
        · exact absurd (congrArg nI q9) c30
      obtain ⟨n1, n2⟩ := i5 j hj16
      refine lv_iload hx hb dL_isRecord_38 (lv_at hl 0 rfl) ?_
      refine lv_if_ne (tgt := 48) hx hb dL_isRecord_40 (by decide) (fun c40 => ?_) (fun c40 => ?_)
      · exact absurd c40 (by decide)
      · skip
        refine lv_bipush (v := (-20)) hx hb dL_isRecord_43 (by decide) ?_
        refine lv_goto (tgt := 63) hx hb dL_isRecord_45 (by decide) ?_
        refine lv_istore (lv' := [(7, .int (-20)), (6, .int 0), (0, .ref (Ad 1)), (1, .ref (Ad 5)), (2, .ref (Ad 6)), (3, .int (nI j)), (4, .int (nI x)), (5, .int (nI y))]) hx hb dL_isRecord_63 hl (by decide) rfl (fun ls hl => ?_)
        refine lv_iload hx hb dL_isRecord_65 (lv_at hl 0 rfl) ?_
        refine lv_if_lt (tgt := 83) hx hb dL_isRecord_67 (by decide) (fun c67 => ?_) (fun c67 => ?_)
        · skip
          refine lv_aload_n hx hb dL_isRecord_83 rfl (lv_at hl 2 rfl) ?_
          refine lv_iconst (v := 4) hx hb dL_isRecord_84 (by decide) ?_
          refine lv_iload_n hx hb dL_isRecord_85 rfl (lv_at hl 5 rfl) ?_
          refine lv_iload hx hb dL_isRecord_86 (lv_at hl 6 rfl) ?_
          refine lv_iload hx hb dL_isRecord_88 (lv_at hl 7 rfl) ?_
          refine gciT (X := wX4 T Ad ta ca fa ga) (vx_runSW (As := [.ref (Ad 1), .int 4, .int (nI j), .int (nI x), .int (nI y)]) (rest := []) ⟨hx, hb, hml, hown, hts⟩ (cL_does_4_noc l hl0 G T Ad AF D mny N f g rk rf rg rh j (nI j) (nI x) (nI y) _ hj16 (fun _ => ⟨rfl, hj16⟩) (fun h9 => absurd (h9.symm.trans (show kSetRec (N j) (nI j) (nI x) (nI y) = 2 by rw [kSetRec_n (by omega) (by omega) (by omega), if_pos hj16, if_neg (by omega)])) (by decide))) (vx_cwSW 5 hts gL_isRecord_L_does rfl rfl rfl (by decide +kernel) ⟨Nat.le_of_ble_eq_true rfl, Nat.le_of_ble_eq_true rfl⟩) ⟨gblind, gpreT (X := wX4 T Ad ta ca fa ga) hE hK hP hD hS hA⟩ rfl rfl hl.1 rfl (lv_room (Nat.le_of_ble_eq_true rfl)) dL_isRecord_90 ⟨Nat.le_of_ble_eq_true rfl, Nat.le_of_ble_eq_true rfl⟩) hP hD hS hA wC_fst (fun r9 H locs hw hP hD hS => ?_)
          have hP : va_P G vwCl (wW T Ad AF ta ca fa ga D mny N f g rk rf rg rh) H := hP
          have hD : va_D (va_A (wW T Ad AF ta ca fa ga D mny N f g rk rf rg rh) s.heap.size) (wW T Ad AF ta ca fa ga D mny N f g rk rf rg rh) := hD
          subst hw
          refine gtop (y := (-20)) (wD_20 (show kSetRec (N j) (nI j) (nI x) (nI y) = 2 by rw [kSetRec_n (by omega) (by omega) (by omega), if_pos hj16, if_neg (by omega)])) ?_
          refine lv_iload hx hb dL_isRecord_93 (lv_at hl 0 rfl) ?_
          refine lv_icmp_ne (tgt := 102) hx hb dL_isRecord_95 (by decide) (fun c95 => ?_) (fun c95 => ?_)
          · exact absurd c95 (by decide)
          · skip
            refine lv_iconst (v := 1) hx hb dL_isRecord_98 (by decide) ?_
            refine lv_goto (tgt := 103) hx hb dL_isRecord_99 (by decide) ?_
            exact W.zret (v := 1) hx hb hr (by decide) (fun w9 ht9 hW => ⟨⟨1, (D, mny, N, f, g, rk, rf, rg, rh, ta, ca, fa, ga), rfl, ⟨rfl, hI⟩, gBi ht9 (gfin hP (rfl))⟩, hS.F ht9⟩) hS.2.2 dL_isRecord_103
        · exact absurd c67 (by decide)
    · skip
      have hj9 : j = 16 := nI_inj (b := 16) (by omega) (by omega) c30
      refine lv_bipush (v := (-30)) hx hb dL_isRecord_33 (by decide) ?_
      refine lv_goto (tgt := 63) hx hb dL_isRecord_35 (by decide) ?_
      refine lv_istore (lv' := [(7, .int (-30)), (6, .int 0), (0, .ref (Ad 1)), (1, .ref (Ad 5)), (2, .ref (Ad 6)), (3, .int (nI j)), (4, .int (nI x)), (5, .int (nI y))]) hx hb dL_isRecord_63 hl (by decide) rfl (fun ls hl => ?_)
      refine lv_iload hx hb dL_isRecord_65 (lv_at hl 0 rfl) ?_
      refine lv_if_lt (tgt := 83) hx hb dL_isRecord_67 (by decide) (fun c67 => ?_) (fun c67 => ?_)
      · skip
        refine lv_aload_n hx hb dL_isRecord_83 rfl (lv_at hl 2 rfl) ?_
        refine lv_iconst (v := 4) hx hb dL_isRecord_84 (by decide) ?_
        refine lv_iload_n hx hb dL_isRecord_85 rfl (lv_at hl 5 rfl) ?_
        refine lv_iload hx hb dL_isRecord_86 (lv_at hl 6 rfl) ?_
        refine lv_iload hx hb dL_isRecord_88 (lv_at hl 7 rfl) ?_
        refine gciT (X := wX4 T Ad ta ca fa ga) (vx_runSW (As := [.ref (Ad 1), .int 4, .int (nI j), .int (nI x), .int (nI y)]) (rest := []) ⟨hx, hb, hml, hown, hts⟩ (cL_does_4_noc l hl0 G T Ad AF D mny N f g rk rf rg rh (j % 16) (nI j) (nI x) (nI y) _ (Nat.mod_lt _ (by decide)) (ix16 (by omega)) (fun h9 => absurd (h9.symm.trans (show kSetRec (N (j % 16)) (nI j) (nI x) (nI y) = 1 by rw [kSetRec_n (by omega) (by omega) (by omega), if_neg (by omega)])) (by decide))) (vx_cwSW 5 hts gL_isRecord_L_does rfl rfl rfl (by decide +kernel) ⟨Nat.le_of_ble_eq_true rfl, Nat.le_of_ble_eq_true rfl⟩) ⟨gblind, gpreT (X := wX4 T Ad ta ca fa ga) hE hK hP hD hS hA⟩ rfl rfl hl.1 rfl (lv_room (Nat.le_of_ble_eq_true rfl)) dL_isRecord_90 ⟨Nat.le_of_ble_eq_true rfl, Nat.le_of_ble_eq_true rfl⟩) hP hD hS hA wC_fst (fun r9 H locs hw hP hD hS => ?_)
        have hP : va_P G vwCl (wW T Ad AF ta ca fa ga D mny N f g rk rf rg rh) H := hP
        have hD : va_D (va_A (wW T Ad AF ta ca fa ga D mny N f g rk rf rg rh) s.heap.size) (wW T Ad AF ta ca fa ga D mny N f g rk rf rg rh) := hD
        subst hw
        refine gtop (y := (-30)) (wD_30 (show kSetRec (N (j % 16)) (nI j) (nI x) (nI y) = 1 by rw [kSetRec_n (by omega) (by omega) (by omega), if_neg (by omega)])) ?_
        refine lv_iload hx hb dL_isRecord_93 (lv_at hl 0 rfl) ?_
        refine lv_icmp_ne (tgt := 102) hx hb dL_isRecord_95 (by decide) (fun c95 => ?_) (fun c95 => ?_)
        · exact absurd c95 (by decide)
        · skip
          refine lv_iconst (v := 1) hx hb dL_isRecord_98 (by decide) ?_
          refine lv_goto (tgt := 103) hx hb dL_isRecord_99 (by decide) ?_
          exact W.zret (v := 1) hx hb hr (by decide) (fun w9 ht9 hW => ⟨⟨1, (D, mny, N, f, g, rk, rf, rg, rh, ta, ca, fa, ga), rfl, ⟨rfl, hI⟩, gBi ht9 (gfin hP (rfl))⟩, hS.F ht9⟩) hS.2.2 dL_isRecord_103
      · exact absurd c67 (by decide)
  · skip
    have hx9 : x < 1000 := Nat.not_le.mp (fun q9 => c5 (nI_le (a := 1000) q9 (by omega)))
    refine lv_iload hx hb dL_isRecord_8 (lv_at hl 5 rfl) ?_
    refine lv_if_le (tgt := 24) hx hb dL_isRecord_10 (by decide) (fun c10 => ?_) (fun c10 => ?_)
    · skip
      have hy9 : y ≤ 0 := Nat.not_lt.mp (fun q9 => nI_ge (a := 0) q9 (by omega) c10)
      refine lv_iconst (v := 0) hx hb dL_isRecord_24 (by decide) ?_
      refine lv_istore (lv' := [(6, .int 0), (0, .ref (Ad 1)), (1, .ref (Ad 5)), (2, .ref (Ad 6)), (3, .int (nI j)), (4, .int (nI x)), (5, .int (nI y))]) hx hb dL_isRecord_25 hl (by decide) rfl (fun ls hl => ?_)
      refine lv_iload_n hx hb dL_isRecord_27 rfl (lv_at hl 4 rfl) ?_
      refine lv_bipush (v := 16) hx hb dL_isRecord_28 (by decide) ?_
      refine lv_icmp_ne (tgt := 38) hx hb dL_isRecord_30 (by decide) (fun c30 => ?_) (fun c30 => ?_)
      · skip
        have hj16 : j < 16 := by
          rcases hnj with q9 | q9
          · omega
          · exact absurd (congrArg nI q9) c30
        obtain ⟨n1, n2⟩ := i5 j hj16
        refine lv_iload hx hb dL_isRecord_38 (lv_at hl 0 rfl) ?_
        refine lv_if_ne (tgt := 48) hx hb dL_isRecord_40 (by decide) (fun c40 => ?_) (fun c40 => ?_)
        · exact absurd c40 (by decide)
        · skip
          refine lv_bipush (v := (-20)) hx hb dL_isRecord_43 (by decide) ?_
          refine lv_goto (tgt := 63) hx hb dL_isRecord_45 (by decide) ?_
          refine lv_istore (lv' := [(7, .int (-20)), (6, .int 0), (0, .ref (Ad 1)), (1, .ref (Ad 5)), (2, .ref (Ad 6)), (3, .int (nI j)), (4, .int (nI x)), (5, .int (nI y))]) hx hb dL_isRecord_63 hl (by decide) rfl (fun ls hl => ?_)
          refine lv_iload hx hb dL_isRecord_65 (lv_at hl 0 rfl) ?_
          refine lv_if_lt (tgt := 83) hx hb dL_isRecord_67 (by decide) (fun c67 => ?_) (fun c67 => ?_)
          · skip
            refine lv_aload_n hx hb dL_isRecord_83 rfl (lv_at hl 2 rfl) ?_
            refine lv_iconst (v := 4) hx hb dL_isRecord_84 (by decide) ?_
            refine lv_iload_n hx hb dL_isRecord_85 rfl (lv_at hl 5 rfl) ?_
            refine lv_iload hx hb dL_isRecord_86 (lv_at hl 6 rfl) ?_
            refine lv_iload hx hb dL_isRecord_88 (lv_at hl 7 rfl) ?_
            refine gciT (X := wX4 T Ad ta ca fa ga) (vx_runSW (As := [.ref (Ad 1), .int 4, .int (nI j), .int (nI x), .int (nI y)]) (rest := []) ⟨hx, hb, hml, hown, hts⟩ (cL_does_4_noc l hl0 G T Ad AF D mny N f g rk rf rg rh j (nI j) (nI x) (nI y) _ hj16 (fun _ => ⟨rfl, hj16⟩) (fun h9 => absurd (h9.symm.trans (show kSetRec (N j) (nI j) (nI x) (nI y) = 2 by rw [kSetRec_n (by omega) (by omega) (by omega), if_pos hj16, if_pos (by omega), if_neg (by omega)])) (by decide))) (vx_cwSW 5 hts gL_isRecord_L_does rfl rfl rfl (by decide +kernel) ⟨Nat.le_of_ble_eq_true rfl, Nat.le_of_ble_eq_true rfl⟩) ⟨gblind, gpreT (X := wX4 T Ad ta ca fa ga) hE hK hP hD hS hA⟩ rfl rfl hl.1 rfl (lv_room (Nat.le_of_ble_eq_true rfl)) dL_isRecord_90 ⟨Nat.le_of_ble_eq_true rfl, Nat.le_of_ble_eq_true rfl⟩) hP hD hS hA wC_fst (fun r9 H locs hw hP hD hS => ?_)
            have hP : va_P G vwCl (wW T Ad AF ta ca fa ga D mny N f g rk rf rg rh) H := hP
            have hD : va_D (va_A (wW T Ad AF ta ca fa ga D mny N f g rk rf rg rh) s.heap.size) (wW T Ad AF ta ca fa ga D mny N f g rk rf rg rh) := hD
            subst hw
            refine gtop (y := (-20)) (wD_20 (show kSetRec (N j) (nI j) (nI x) (nI y) = 2 by rw [kSetRec_n (by omega) (by omega) (by omega), if_pos hj16, if_pos (by omega), if_neg (by omega)])) ?_
            refine lv_iload hx hb dL_isRecord_93 (lv_at hl 0 rfl) ?_
            refine lv_icmp_ne (tgt := 102) hx hb dL_isRecord_95 (by decide) (fun c95 => ?_) (fun c95 => ?_)
            · exact absurd c95 (by decide)
            · skip
              refine lv_iconst (v := 1) hx hb dL_isRecord_98 (by decide) ?_
              refine lv_goto (tgt := 103) hx hb dL_isRecord_99 (by decide) ?_
              exact W.zret (v := 1) hx hb hr (by decide) (fun w9 ht9 hW => ⟨⟨1, (D, mny, N, f, g, rk, rf, rg, rh, ta, ca, fa, ga), rfl, ⟨rfl, hI⟩, gBi ht9 (gfin hP (rfl))⟩, hS.F ht9⟩) hS.2.2 dL_isRecord_103
          · exact absurd c67 (by decide)
      · skip
        have hj9 : j = 16 := nI_inj (b := 16) (by omega) (by omega) c30
        refine lv_bipush (v := (-30)) hx hb dL_isRecord_33 (by decide) ?_
        refine lv_goto (tgt := 63) hx hb dL_isRecord_35 (by decide) ?_
        refine lv_istore (lv' := [(7, .int (-30)), (6, .int 0), (0, .ref (Ad 1)), (1, .ref (Ad 5)), (2, .ref (Ad 6)), (3, .int (nI j)), (4, .int (nI x)), (5, .int (nI y))]) hx hb dL_isRecord_63 hl (by decide) rfl (fun ls hl => ?_)
        refine lv_iload hx hb dL_isRecord_65 (lv_at hl 0 rfl) ?_
        refine lv_if_lt (tgt := 83) hx hb dL_isRecord_67 (by decide) (fun c67 => ?_) (fun c67 => ?_)
        · skip
          refine lv_aload_n hx hb dL_isRecord_83 rfl (lv_at hl 2 rfl) ?_
          refine lv_iconst (v := 4) hx hb dL_isRecord_84 (by decide) ?_
          refine lv_iload_n hx hb dL_isRecord_85 rfl (lv_at hl 5 rfl) ?_
          refine lv_iload hx hb dL_isRecord_86 (lv_at hl 6 rfl) ?_
          refine lv_iload hx hb dL_isRecord_88 (lv_at hl 7 rfl) ?_
          refine gciT (X := wX4 T Ad ta ca fa ga) (vx_runSW (As := [.ref (Ad 1), .int 4, .int (nI j), .int (nI x), .int (nI y)]) (rest := []) ⟨hx, hb, hml, hown, hts⟩ (cL_does_4_noc l hl0 G T Ad AF D mny N f g rk rf rg rh (j % 16) (nI j) (nI x) (nI y) _ (Nat.mod_lt _ (by decide)) (ix16 (by omega)) (fun h9 => absurd (h9.symm.trans (show kSetRec (N (j % 16)) (nI j) (nI x) (nI y) = 1 by rw [kSetRec_n (by omega) (by omega) (by omega), if_neg (by omega)])) (by decide))) (vx_cwSW 5 hts gL_isRecord_L_does rfl rfl rfl (by decide +kernel) ⟨Nat.le_of_ble_eq_true rfl, Nat.le_of_ble_eq_true rfl⟩) ⟨gblind, gpreT (X := wX4 T Ad ta ca fa ga) hE hK hP hD hS hA⟩ rfl rfl hl.1 rfl (lv_room (Nat.le_of_ble_eq_true rfl)) dL_isRecord_90 ⟨Nat.le_of_ble_eq_true rfl, Nat.le_of_ble_eq_true rfl⟩) hP hD hS hA wC_fst (fun r9 H locs hw hP hD hS => ?_)
          have hP : va_P G vwCl (wW T Ad AF ta ca fa ga D mny N f g rk rf rg rh) H := hP
          have hD : va_D (va_A (wW T Ad AF ta ca fa ga D mny N f g rk rf rg rh) s.heap.size) (wW T Ad AF ta ca fa ga D mny N f g rk rf rg rh) := hD
          subst hw
          refine gtop (y := (-30)) (wD_30 (show kSetRec (N (j % 16)) (nI j) (nI x) (nI y) = 1 by rw [kSetRec_n (by omega) (by omega) (by omega), if_neg (by omega)])) ?_
          refine lv_iload hx hb dL_isRecord_93 (lv_at hl 0 rfl) ?_
          refine lv_icmp_ne (tgt := 102) hx hb dL_isRecord_95 (by decide) (fun c95 => ?_) (fun c95 => ?_)
          · exact absurd c95 (by decide)
          · skip
            refine lv_iconst (v := 1) hx hb dL_isRecord_98 (by decide) ?_
            refine lv_goto (tgt := 103) hx hb dL_isRecord_99 (by decide) ?_
            exact W.zret (v := 1) hx hb hr (by decide) (fun w9 ht9 hW => ⟨⟨1, (D, mny, N, f, g, rk, rf, rg, rh, ta, ca, fa, ga), rfl, ⟨rfl, hI⟩, gBi ht9 (gfin hP (rfl))⟩, hS.F ht9⟩) hS.2.2 dL_isRecord_103
        · exact absurd c67 (by decide)
    · skip
      have hy9 : 0 < y := Nat.not_le.mp (fun q9 => c10 (nI_le (b := 0) q9 (by omega)))
      refine lv_iload hx hb dL_isRecord_13 (lv_at hl 5 rfl) ?_
      refine lv_bipush (v := 51) hx hb dL_isRecord_15 (by decide) ?_
      refine lv_icmp_ge (tgt := 24) hx hb dL_isRecord_17 (by decide) (fun c17 => ?_) (fun c17 => ?_)
      · skip
        have hy8 : 51 ≤ y := Nat.not_lt.mp (fun q9 => nI_ge (b := 51) q9 (by omega) c17)
        refine lv_iconst (v := 0) hx hb dL_isRecord_24 (by decide) ?_
        refine lv_istore (lv' := [(6, .int 0), (0, .ref (Ad 1)), (1, .ref (Ad 5)), (2, .ref (Ad 6)), (3, .int (nI j)), (4, .int (nI x)), (5, .int (nI y))]) hx hb dL_isRecord_25 hl (by decide) rfl (fun ls hl => ?_)
        refine lv_iload_n hx hb dL_isRecord_27 rfl (lv_at hl 4 rfl) ?_
        refine lv_bipush (v := 16) hx hb dL_isRecord_28 (by decide) ?_
        refine lv_icmp_ne (tgt := 38) hx hb dL_isRecord_30 (by decide) (fun c30 => ?_) (fun c30 => ?_)
        · skip
          have hj16 : j < 16 := by
            rcases hnj with q9 | q9
            · omega
            · exact absurd (congrArg nI q9) c30
          obtain ⟨n1, n2⟩ := i5 j hj16
          refine lv_iload hx hb dL_isRecord_38 (lv_at hl 0 rfl) ?_
          refine lv_if_ne (tgt := 48) hx hb dL_isRecord_40 (by decide) (fun c40 => ?_) (fun c40 => ?_)
          · exact absurd c40 (by decide)
          · skip
            refine lv_bipush (v := (-20)) hx hb dL_isRecord_43 (by decide) ?_
            refine lv_goto (tgt := 63) hx hb dL_isRecord_45 (by decide) ?_
            refine lv_istore (lv' := [(7, .int (-20)), (6, .int 0), (0, .ref (Ad 1)), (1, .ref (Ad 5)), (2, .ref (Ad 6)), (3, .int (nI j)), (4, .int (nI x)), (5, .int (nI y))]) hx hb dL_isRecord_63 hl (by decide) rfl (fun ls hl => ?_)
            refine lv_iload hx hb dL_isRecord_65 (lv_at hl 0 rfl) ?_
            refine lv_if_lt (tgt := 83) hx hb dL_isRecord_67 (by decide) (fun c67 => ?_) (fun c67 => ?_)
            · skip
              refine lv_aload_n hx hb dL_isRecord_83 rfl (lv_at hl 2 rfl) ?_
              refine lv_iconst (v := 4) hx hb dL_isRecord_84 (by decide) ?_
              refine lv_iload_n hx hb dL_isRecord_85 rfl (lv_at hl 5 rfl) ?_
              refine lv_iload hx hb dL_isRecord_86 (lv_at hl 6 rfl) ?_
              refine lv_iload hx hb dL_isRecord_88 (lv_at hl 7 rfl) ?_
              refine gciT (X := wX4 T Ad ta ca fa ga) (vx_runSW (As := [.ref (Ad 1), .int 4, .int (nI j), .int (nI x), .int (nI y)]) (rest := []) ⟨hx, hb, hml, hown, hts⟩ (cL_does_4_noc l hl0 G T Ad AF D mny N f g rk rf rg rh j (nI j) (nI x) (nI y) _ hj16 (fun _ => ⟨rfl, hj16⟩) (fun h9 => absurd (h9.symm.trans (show kSetRec (N j) (nI j) (nI x) (nI y) = 2 by rw [kSetRec_n (by omega) (by omega) (by omega), if_pos hj16, if_pos (by omega), if_neg (by omega)])) (by decide))) (vx_cwSW 5 hts gL_isRecord_L_does rfl rfl rfl (by decide +kernel) ⟨Nat.le_of_ble_eq_true rfl, Nat.le_of_ble_eq_true rfl⟩) ⟨gblind, gpreT (X := wX4 T Ad ta ca fa ga) hE hK hP hD hS hA⟩ rfl rfl hl.1 rfl (lv_room (Nat.le_of_ble_eq_true rfl)) dL_isRecord_90 ⟨Nat.le_of_ble_eq_true rfl, Nat.le_of_ble_eq_true rfl⟩) hP hD hS hA wC_fst (fun r9 H locs hw hP hD hS => ?_)
              have hP : va_P G vwCl (wW T Ad AF ta ca fa ga D mny N f g rk rf rg rh) H := hP
              have hD : va_D (va_A (wW T Ad AF ta ca fa ga D mny N f g rk rf rg rh) s.heap.size) (wW T Ad AF ta ca fa ga D mny N f g rk rf rg rh) := hD
              subst hw
              refine gtop (y := (-20)) (wD_20 (show kSetRec (N j) (nI j) (nI x) (nI y) = 2 by rw [kSetRec_n (by omega) (by omega) (by omega), if_pos hj16, if_pos (by omega), if_neg (by omega)])) ?_
              refine lv_iload hx hb dL_isRecord_93 (lv_at hl 0 rfl) ?_
              refine lv_icmp_ne (tgt := 102) hx hb dL_isRecord_95 (by decide) (fun c95 => ?_) (fun c95 => ?_)
              · exact absurd c95 (by decide)
              · skip
                refine lv_iconst (v := 1) hx hb dL_isRecord_98 (by decide) ?_
                refine lv_goto (tgt := 103) hx hb dL_isRecord_99 (by decide) ?_
                exact W.zret (v := 1) hx hb hr (by decide) (fun w9 ht9 hW => ⟨⟨1, (D, mny, N, f, g, rk, rf, rg, rh, ta, ca, fa, ga), rfl, ⟨rfl, hI⟩, gBi ht9 (gfin hP (rfl))⟩, hS.F ht9⟩) hS.2.2 dL_isRecord_103
            · exact absurd c67 (by decide)
        · skip
          have hj9 : j = 16 := nI_inj (b := 16) (by omega) (by omega) c30
          refine lv_bipush (v := (-30)) hx hb dL_isRecord_33 (by decide) ?_
          refine lv_goto (tgt := 63) hx hb dL_isRecord_35 (by decide) ?_
          refine lv_istore (lv' := [(7, .int (-30)), (6, .int 0), (0, .ref (Ad 1)), (1, .ref (Ad 5)), (2, .ref (Ad 6)), (3, .int (nI j)), (4, .int (nI x)), (5, .int (nI y))]) hx hb dL_isRecord_63 hl (by decide) rfl (fun ls hl => ?_)
          refine lv_iload hx hb dL_isRecord_65 (lv_at hl 0 rfl) ?_
          refine lv_if_lt (tgt := 83) hx hb dL_isRecord_67 (by decide) (fun c67 => ?_) (fun c67 => ?_)
          · skip
            refine lv_aload_n hx hb dL_isRecord_83 rfl (lv_at hl 2 rfl) ?_
            refine lv_iconst (v := 4) hx hb dL_isRecord_84 (by decide) ?_
            refine lv_iload_n hx hb dL_isRecord_85 rfl (lv_at hl 5 rfl) ?_
            refine lv_iload hx hb dL_isRecord_86 (lv_at hl 6 rfl) ?_
            refine lv_iload hx hb dL_isRecord_88 (lv_at hl 7 rfl) ?_
            refine gciT (X := wX4 T Ad ta ca fa ga) (vx_runSW (As := [.ref (Ad 1), .int 4, .int (nI j), .int (nI x), .int (nI y)]) (rest := []) ⟨hx, hb, hml, hown, hts⟩ (cL_does_4_noc l hl0 G T Ad AF D mny N f g rk rf rg rh (j % 16) (nI j) (nI x) (nI y) _ (Nat.mod_lt _ (by decide)) (ix16 (by omega)) (fun h9 => absurd (h9.symm.trans (show kSetRec (N (j % 16)) (nI j) (nI x) (nI y) = 1 by rw [kSetRec_n (by omega) (by omega) (by omega), if_neg (by omega)])) (by decide))) (vx_cwSW 5 hts gL_isRecord_L_does rfl rfl rfl (by decide +kernel) ⟨Nat.le_of_ble_eq_true rfl, Nat.le_of_ble_eq_true rfl⟩) ⟨gblind, gpreT (X := wX4 T Ad ta ca fa ga) hE hK hP hD hS hA⟩ rfl rfl hl.1 rfl (lv_room (Nat.le_of_ble_eq_true rfl)) dL_isRecord_90 ⟨Nat.le_of_ble_eq_true rfl, Nat.le_of_ble_eq_true rfl⟩) hP hD hS hA wC_fst (fun r9 H locs hw hP hD hS => ?_)
            have hP : va_P G vwCl (wW T Ad AF ta ca fa ga D mny N f g rk rf rg rh) H := hP
            have hD : va_D (va_A (wW T Ad AF ta ca fa ga D mny N f g rk rf rg rh) s.heap.size) (wW T Ad AF ta ca fa ga D mny N f g rk rf rg rh) := hD
            subst hw
            refine gtop (y := (-30)) (wD_30 (show kSetRec (N (j % 16)) (nI j) (nI x) (nI y) = 1 by rw [kSetRec_n (by omega) (by omega) (by omega), if_neg (by omega)])) ?_
            refine lv_iload hx hb dL_isRecord_93 (lv_at hl 0 rfl) ?_
            refine lv_icmp_ne (tgt := 102) hx hb dL_isRecord_95 (by decide) (fun c95 => ?_) (fun c95 => ?_)
            · exact absurd c95 (by decide)
            · skip
              refine lv_iconst (v := 1) hx hb dL_isRecord_98 (by decide) ?_
              refine lv_goto (tgt := 103) hx hb dL_isRecord_99 (by decide) ?_
              exact W.zret (v := 1) hx hb hr (by decide) (fun w9 ht9 hW => ⟨⟨1, (D, mny, N, f, g, rk, rf, rg, rh, ta, ca, fa, ga), rfl, ⟨rfl, hI⟩, gBi ht9 (gfin hP (rfl))⟩, hS.F ht9⟩) hS.2.2 dL_isRecord_103
          · exact absurd c67 (by decide)
      · skip
        have hy8 : y < 51 := Nat.not_le.mp (fun q9 => c17 (nI_le (a := 51) q9 (by omega)))
        refine lv_iconst (v := 1) hx hb dL_isRecord_20 (by decide) ?_
        refine lv_goto (tgt := 25) hx hb dL_isRecord_21 (by decide) ?_
        refine lv_istore (lv' := [(6, .int 1), (0, .ref (Ad 1)), (1, .ref (Ad 5)), (2, .ref (Ad 6)), (3, .int (nI j)), (4, .int (nI x)), (5, .int (nI y))]) hx hb dL_isRecord_25 hl (by decide) rfl (fun ls hl => ?_)
        refine lv_iload_n hx hb dL_isRecord_27 rfl (lv_at hl 4 rfl) ?_
        refine lv_bipush (v := 16) hx hb dL_isRecord_28 (by decide) ?_
        refine lv_icmp_ne (tgt := 38) hx hb dL_isRecord_30 (by decide) (fun c30 => ?_) (fun c30 => ?_)
        · skip
          have hj16 : j < 16 := by
            rcases hnj with q9 | q9
            · omega
            · exact absurd (congrArg nI q9) c30
          obtain ⟨n1, n2⟩ := i5 j hj16
          refine lv_iload hx hb dL_isRecord_38 (lv_at hl 0 rfl) ?_
          refine lv_if_ne (tgt := 48) hx hb dL_isRecord_40 (by decide) (fun c40 => ?_) (fun c40 => ?_)
          · skip
            refine lv_aload_n hx hb dL_isRecord_48 rfl (lv_at hl 2 rfl) ?_
            refine lv_iload_n hx hb dL_isRecord_49 rfl (lv_at hl 4 rfl) ?_
            refine giald (j := j) hx hb hK hP 0 0 rfl rfl (show (nI j : Int32) = nI j from rfl) (by omega) (by decide) dL_isRecord_50 ?_
            refine gtop (y := N j 0) n2.1 ?_
            refine lv_iconst (v := 2) hx hb dL_isRecord_51 (by decide) ?_
            refine lv_icmp_eq (tgt := 60) hx hb dL_isRecord_52 (by decide) (fun c52 => ?_) (fun c52 => ?_)
            · skip
              obtain ⟨-, -, -, n5, -, r9, hr1, hr2⟩ := n2
              have hc4 : ca j = nI r9 := (n5 (by rw [sRec_2 c52]; decide)).1.trans hr2
              refine lv_aload_n hx hb dL_isRecord_60 rfl (lv_at hl 3 rfl) ?_
              refine lv_iload_n hx hb dL_isRecord_61 rfl (lv_at hl 4 rfl) ?_
              refine giald (j := j) hx hb hK hP 1 0 rfl rfl (show (nI j : Int32) = nI j from rfl) (by omega) (by decide) dL_isRecord_62 ?_
              refine gtop (y := nI r9) hc4 ?_
              refine lv_istore (lv' := [(7, .int (nI r9)), (6, .int 1), (0, .ref (Ad 1)), (1, .ref (Ad 5)), (2, .ref (Ad 6)), (3, .int (nI j)), (4, .int (nI x)), (5, .int (nI y))]) hx hb dL_isRecord_63 hl (by decide) rfl (fun ls hl => ?_)
              refine lv_iload hx hb dL_isRecord_65 (lv_at hl 0 rfl) ?_
              refine lv_if_lt (tgt := 83) hx hb dL_isRecord_67 (by decide) (fun c67 => ?_) (fun c67 => ?_)
              · exact absurd c67 (nI_pos (by omega))
              · skip
                refine lv_aload_n hx hb dL_isRecord_70 rfl (lv_at hl 4 rfl) ?_
                refine lv_iload_n hx hb dL_isRecord_71 rfl (lv_at hl 5 rfl) ?_
                refine lv_iload hx hb dL_isRecord_72 (lv_at hl 6 rfl) ?_
                refine giast (j := j) hx hb hK hP hD hS 1 0 rfl rfl (show (nI j : Int32) = nI j from rfl) (by omega) (by decide) dL_isRecord_74 (fun H locs hP hD hS => ?_)
                have hP : va_P G vwCl (wW T Ad AF ta (upd ca j (nI x)) fa ga D mny N f g rk rf rg rh) H := hP
                have hD : va_D (va_A (wW T Ad AF ta ca fa ga D mny N f g rk rf rg rh) s.heap.size) (wW T Ad AF ta (upd ca j (nI x)) fa ga D mny N f g rk rf rg rh) := hD
                refine lv_aload_n hx hb dL_isRecord_75 rfl (lv_at hl 4 rfl) ?_
                refine lv_bipush (v := 16) hx hb dL_isRecord_76 (by decide) ?_
                refine lv_iload_n hx hb dL_isRecord_78 rfl (lv_at hl 5 rfl) ?_
                refine lv_iadd hx hb dL_isRecord_79 ?_
                refine gtop (y := nI (16 + j)) (nI_add 16 j) ?_
                refine lv_iload hx hb dL_isRecord_80 (lv_at hl 7 rfl) ?_
                refine giast (j := (16 + j)) hx hb hK hP hD hS 1 0 rfl rfl (show (nI (16 + j) : Int32) = nI (16 + j) from rfl) (by omega) (by decide) dL_isRecord_82 (fun H locs hP hD hS => ?_)
                have hP : va_P G vwCl (wW T Ad AF ta (upd (upd ca j (nI x)) (16 + j) (nI y)) fa ga D mny N f g rk rf rg rh) H := hP
                have hD : va_D (va_A (wW T Ad AF ta ca fa ga D mny N f g rk rf rg rh) s.heap.size) (wW T Ad AF ta (upd (upd ca j (nI x)) (16 + j) (nI y)) fa ga D mny N f g rk rf rg rh) := hD
                refine lv_aload_n hx hb dL_isRecord_83 rfl (lv_at hl 2 rfl) ?_
                refine lv_iconst (v := 4) hx hb dL_isRecord_84 (by decide) ?_
                refine lv_iload_n hx hb dL_isRecord_85 rfl (lv_at hl 5 rfl) ?_
                refine lv_iload hx hb dL_isRecord_86 (lv_at hl 6 rfl) ?_
                refine lv_iload hx hb dL_isRecord_88 (lv_at hl 7 rfl) ?_
                refine gciT (X := wX4 T Ad ta (upd (upd ca j (nI x)) (16 + j) (nI y)) fa ga) (vx_runSW (As := [.ref (Ad 1), .int 4, .int (nI j), .int (nI x), .int (nI y)]) (rest := []) ⟨hx, hb, hml, hown, hts⟩ (cL_does_4_okc l hl0 G T Ad AF D mny N f g rk rf rg rh j (nI x) (nI y) _ hj16 (by rw [kSetRec_n (by omega) (by omega) (by omega), if_pos hj16, if_pos (by omega), if_pos (by omega), if_pos c52])) (vx_cwSW 5 hts gL_isRecord_L_does rfl rfl rfl (by decide +kernel) ⟨Nat.le_of_ble_eq_true rfl, Nat.le_of_ble_eq_true rfl⟩) ⟨gblind, gpreT (X := wX4 T Ad ta (upd (upd ca j (nI x)) (16 + j) (nI y)) fa ga) hE hK hP hD hS hA⟩ rfl rfl hl.1 rfl (lv_room (Nat.le_of_ble_eq_true rfl)) dL_isRecord_90 ⟨Nat.le_of_ble_eq_true rfl, Nat.le_of_ble_eq_true rfl⟩) hP hD hS hA wC_fst (fun r9 H locs hw hP hD hS => ?_)
                have hP : va_P G vwCl (wW T Ad AF ta (upd (upd ca j (nI x)) (16 + j) (nI y)) fa ga D mny (updA N j (upd (upd (N j) 4 (nI x)) 5 (nI y))) f g rk rf rg rh) H := hP
                have hD : va_D (va_A (wW T Ad AF ta ca fa ga D mny N f g rk rf rg rh) s.heap.size) (wW T Ad AF ta (upd (upd ca j (nI x)) (16 + j) (nI y)) fa ga D mny (updA N j (upd (upd (N j) 4 (nI x)) 5 (nI y))) f g rk rf rg rh) := hD
                subst hw
                refine gtop (y := nI r9) hr2 ?_
                refine lv_iload hx hb dL_isRecord_93 (lv_at hl 0 rfl) ?_
                refine lv_icmp_ne (tgt := 102) hx hb dL_isRecord_95 (by decide) (fun c95 => ?_) (fun c95 => ?_)
                · exact absurd rfl c95
                · skip
                  refine lv_iconst (v := 1) hx hb dL_isRecord_98 (by decide) ?_
                  refine lv_goto (tgt := 103) hx hb dL_isRecord_99 (by decide) ?_
                  have hI9 : INV d a D mny (updA N j (upd (upd (N j) 4 (nI x)) 5 (nI y))) f rk rf rg rh ta (upd (upd ca j (nI x)) (16 + j) (nI y)) fa ga := INV.record hI hj16 c52 hx9
                  exact W.zret (v := 1) hx hb hr (by decide) (fun w9 ht9 hW => ⟨⟨1, (D, mny, (updA N j (upd (upd (N j) 4 (nI x)) 5 (nI y))), f, g, rk, rf, rg, rh, ta, (upd (upd ca j (nI x)) (16 + j) (nI y)), fa, ga), rfl, ⟨rfl, hI9⟩, gBi ht9 (gfin hP (rfl))⟩, hS.F ht9⟩) hS.2.2 dL_isRecord_103
            · skip
              refine lv_bipush (v := (-10)) hx hb dL_isRecord_55 (by decide) ?_
              refine lv_goto (tgt := 63) hx hb dL_isRecord_57 (by decide) ?_
              refine lv_istore (lv' := [(7, .int (-10)), (6, .int 1), (0, .ref (Ad 1)), (1, .ref (Ad 5)), (2, .ref (Ad 6)), (3, .int (nI j)), (4, .int (nI x)), (5, .int (nI y))]) hx hb dL_isRecord_63 hl (by decide) rfl (fun ls hl => ?_)
              refine lv_iload hx hb dL_isRecord_65 (lv_at hl 0 rfl) ?_
              refine lv_if_lt (tgt := 83) hx hb dL_isRecord_67 (by decide) (fun c67 => ?_) (fun c67 => ?_)
              · skip
                refine lv_aload_n hx hb dL_isRecord_83 rfl (lv_at hl 2 rfl) ?_
                refine lv_iconst (v := 4) hx hb dL_isRecord_84 (by decide) ?_
                refine lv_iload_n hx hb dL_isRecord_85 rfl (lv_at hl 5 rfl) ?_
                refine lv_iload hx hb dL_isRecord_86 (lv_at hl 6 rfl) ?_
                refine lv_iload hx hb dL_isRecord_88 (lv_at hl 7 rfl) ?_
                refine gciT (X := wX4 T Ad ta ca fa ga) (vx_runSW (As := [.ref (Ad 1), .int 4, .int (nI j), .int (nI x), .int (nI y)]) (rest := []) ⟨hx, hb, hml, hown, hts⟩ (cL_does_4_noc l hl0 G T Ad AF D mny N f g rk rf rg rh j (nI j) (nI x) (nI y) _ hj16 (fun _ => ⟨rfl, hj16⟩) (fun h9 => absurd (h9.symm.trans (show kSetRec (N j) (nI j) (nI x) (nI y) = 3 by rw [kSetRec_n (by omega) (by omega) (by omega), if_pos hj16, if_pos (by omega), if_pos (by omega), if_neg c52])) (by decide))) (vx_cwSW 5 hts gL_isRecord_L_does rfl rfl rfl (by decide +kernel) ⟨Nat.le_of_ble_eq_true rfl, Nat.le_of_ble_eq_true rfl⟩) ⟨gblind, gpreT (X := wX4 T Ad ta ca fa ga) hE hK hP hD hS hA⟩ rfl rfl hl.1 rfl (lv_room (Nat.le_of_ble_eq_true rfl)) dL_isRecord_90 ⟨Nat.le_of_ble_eq_true rfl, Nat.le_of_ble_eq_true rfl⟩) hP hD hS hA wC_fst (fun r9 H locs hw hP hD hS => ?_)
                have hP : va_P G vwCl (wW T Ad AF ta ca fa ga D mny N f g rk rf rg rh) H := hP
                have hD : va_D (va_A (wW T Ad AF ta ca fa ga D mny N f g rk rf rg rh) s.heap.size) (wW T Ad AF ta ca fa ga D mny N f g rk rf rg rh) := hD
                subst hw
                refine gtop (y := (-10)) (wD_10 (show kSetRec (N j) (nI j) (nI x) (nI y) = 3 by rw [kSetRec_n (by omega) (by omega) (by omega), if_pos hj16, if_pos (by omega), if_pos (by omega), if_neg c52])) ?_
                refine lv_iload hx hb dL_isRecord_93 (lv_at hl 0 rfl) ?_
                refine lv_icmp_ne (tgt := 102) hx hb dL_isRecord_95 (by decide) (fun c95 => ?_) (fun c95 => ?_)
                · exact absurd c95 (by decide)
                · skip
                  refine lv_iconst (v := 1) hx hb dL_isRecord_98 (by decide) ?_
                  refine lv_goto (tgt := 103) hx hb dL_isRecord_99 (by decide) ?_
                  exact W.zret (v := 1) hx hb hr (by decide) (fun w9 ht9 hW => ⟨⟨1, (D, mny, N, f, g, rk, rf, rg, rh, ta, ca, fa, ga), rfl, ⟨rfl, hI⟩, gBi ht9 (gfin hP (rfl))⟩, hS.F ht9⟩) hS.2.2 dL_isRecord_103
              · exact absurd c67 (by decide)
          · exact absurd c40 (by decide)
        · skip
          have hj9 : j = 16 := nI_inj (b := 16) (by omega) (by omega) c30
          refine lv_bipush (v := (-30)) hx hb dL_isRecord_33 (by decide) ?_
          refine lv_goto (tgt := 63) hx hb dL_isRecord_35 (by decide) ?_
          refine lv_istore (lv' := [(7, .int (-30)), (6, .int 1), (0, .ref (Ad 1)), (1, .ref (Ad 5)), (2, .ref (Ad 6)), (3, .int (nI j)), (4, .int (nI x)), (5, .int (nI y))]) hx hb dL_isRecord_63 hl (by decide) rfl (fun ls hl => ?_)
          refine lv_iload hx hb dL_isRecord_65 (lv_at hl 0 rfl) ?_
          refine lv_if_lt (tgt := 83) hx hb dL_isRecord_67 (by decide) (fun c67 => ?_) (fun c67 => ?_)
          · skip
            refine lv_aload_n hx hb dL_isRecord_83 rfl (lv_at hl 2 rfl) ?_
            refine lv_iconst (v := 4) hx hb dL_isRecord_84 (by decide) ?_
            refine lv_iload_n hx hb dL_isRecord_85 rfl (lv_at hl 5 rfl) ?_
            refine lv_iload hx hb dL_isRecord_86 (lv_at hl 6 rfl) ?_
            refine lv_iload hx hb dL_isRecord_88 (lv_at hl 7 rfl) ?_
            refine gciT (X := wX4 T Ad ta ca fa ga) (vx_runSW (As := [.ref (Ad 1), .int 4, .int (nI j), .int (nI x), .int (nI y)]) (rest := []) ⟨hx, hb, hml, hown, hts⟩ (cL_does_4_noc l hl0 G T Ad AF D mny N f g rk rf rg rh (j % 16) (nI j) (nI x) (nI y) _ (Nat.mod_lt _ (by decide)) (ix16 (by omega)) (fun h9 => absurd (h9.symm.trans (show kSetRec (N (j % 16)) (nI j) (nI x) (nI y) = 1 by rw [kSetRec_n (by omega) (by omega) (by omega), if_neg (by omega)])) (by decide))) (vx_cwSW 5 hts gL_isRecord_L_does rfl rfl rfl (by decide +kernel) ⟨Nat.le_of_ble_eq_true rfl, Nat.le_of_ble_eq_true rfl⟩) ⟨gblind, gpreT (X := wX4 T Ad ta ca fa ga) hE hK hP hD hS hA⟩ rfl rfl hl.1 rfl (lv_room (Nat.le_of_ble_eq_true rfl)) dL_isRecord_90 ⟨Nat.le_of_ble_eq_true rfl, Nat.le_of_ble_eq_true rfl⟩) hP hD hS hA wC_fst (fun r9 H locs hw hP hD hS => ?_)
            have hP : va_P G vwCl (wW T Ad AF ta ca fa ga D mny N f g rk rf rg rh) H := hP
            have hD : va_D (va_A (wW T Ad AF ta ca fa ga D mny N f g rk rf rg rh) s.heap.size) (wW T Ad AF ta ca fa ga D mny N f g rk rf rg rh) := hD
            subst hw
            refine gtop (y := (-30)) (wD_30 (show kSetRec (N (j % 16)) (nI j) (nI x) (nI y) = 1 by rw [kSetRec_n (by omega) (by omega) (by omega), if_neg (by omega)])) ?_
            refine lv_iload hx hb dL_isRecord_93 (lv_at hl 0 rfl) ?_
            refine lv_icmp_ne (tgt := 102) hx hb dL_isRecord_95 (by decide) (fun c95 => ?_) (fun c95 => ?_)
            · exact absurd c95 (by decide)
            · skip
              refine lv_iconst (v := 1) hx hb dL_isRecord_98 (by decide) ?_
              refine lv_goto (tgt := 103) hx hb dL_isRecord_99 (by decide) ?_
              exact W.zret (v := 1) hx hb hr (by decide) (fun w9 ht9 hW => ⟨⟨1, (D, mny, N, f, g, rk, rf, rg, rh, ta, ca, fa, ga), rfl, ⟨rfl, hI⟩, gBi ht9 (gfin hP (rfl))⟩, hS.F ht9⟩) hS.2.2 dL_isRecord_103
          · exact absurd c67 (by decide)
