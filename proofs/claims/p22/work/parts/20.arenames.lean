/-! THE LAW'S METHODS: areNames -/
theorem wD_30 {k : Nat} (h : k = 1) : wD k = -30 := by rw [h]; rfl
theorem wD_20 {k : Nat} (h : k = 2) : wD k = -20 := by rw [h]; rfl
theorem wD_10 {k : Nat} (h : k = 3) : wD k = -10 := by rw [h]; rfl
abbrev PL_areNames (G : va_G) (T : Nat → ClassId) (aK aV : Nat → Nat) (Ad : Nat → Nat) (AF : Nat → Nat → Nat) (D mny : Nat → Int32) (N f g : Nat → Nat → Int32) (rk rf rg rh : Nat → Nat → Int32) (ta ca fa ga : Nat → Int32) (d a : Nat) (sz : Nat) : Array Value → State → Prop := gPw G T aK aV [.ref (Ad 1), .ref (Ad 5), .ref (Ad 6), .ref (Ad 8)] (wW T Ad AF ta ca fa ga D mny N f g rk rf rg rh) sz
abbrev QL_areNames (G : va_G) (T : Nat → ClassId) (aK aV : Nat → Nat) (Ad : Nat → Nat) (AF : Nat → Nat → Nat) (D mny : Nat → Int32) (N f g : Nat → Nat → Int32) (rk rf rg rh : Nat → Nat → Int32) (ta ca fa ga : Nat → Int32) (d a : Nat) (sz : Nat) : Array Value → State → Outcome → State → Prop := va_Qi (fun (r : Int32) (_ : Unit) => r = 1) (gB G (wW T Ad AF ta ca fa ga D mny N f g rk rf rg rh)) (va_A (wW T Ad AF ta ca fa ga D mny N f g rk rf rg rh) sz)
set_option maxHeartbeats 4000000 in
set_option maxRecDepth 100000 in
theorem kL_areNames (l : Launch) (hl0 : l.stackTraces = false) (G : va_G) (T : Nat → ClassId) (aK aV : Nat → Nat) (Ad : Nat → Nat) (AF : Nat → Nat → Nat) (D mny : Nat → Int32) (N f g : Nat → Nat → Int32) (rk rf rg rh : Nat → Nat → Int32) (ta ca fa ga : Nat → Int32) (d a : Nat) (sz : Nat) (hI : INV d a D mny N f rk rf rg rh ta ca fa ga) (hd : d < 2 ^ 20) (ha : a < 2 ^ 20) : Met l yL_areNames wsL_areNames ({ frames := 9, cells := 8, slots := 48, locals := 151 } : Room) (PL_areNames G T aK aV Ad AF D mny N f g rk rf rg rh ta ca fa ga d a sz) (QL_areNames G T aK aV Ad AF D mny N f g rk rf rg rh ta ca fa ga d a sz) 8 48 (va_A (wW T Ad AF ta ca fa ga D mny N f g rk rf rg rh) sz) := by
  refine Met.ofW (cc := cL_areNames) (maxL := 12) (ret := (some .boolean)) (by decide) rfl ?_
  intro p e s m args below meth c s₁ B hml hv
  obtain ⟨rfl, ⟨hsz, hP, hK, hD0, hE⟩, hWs⟩ := hv
  have hx := B.exec
  have hb := B.bytes
  have hr := B.returns
  have hts := atoms_spec (ws := wsL_areNames) B.pre
  have hown : s.vm.findClass RL = some m.cls := findClass_of_methodNamed B.named
  have hlocks := B.notSynchronized
  subst hsz
  have hD := hD0.self (sz := s.heap.size)
  have hA : ∀ q : Nat, s.heap.size ≤ q → (va_A (wW T Ad AF ta ca fa ga D mny N f g rk rf rg rh) s.heap.size) q := fun q h => Or.inr h
  have hS : va_S (va_A (wW T Ad AF ta ca fa ga D mny N f g rk rf rg rh) s.heap.size) s.heap s.heap [] := va_S.rf
  have hl := lv_entry ([.ref (Ad 1), .ref (Ad 5), .ref (Ad 6), .ref (Ad 8)]) (n := 12) (Nat.le_of_ble_eq_true rfl)
  rw [lg_entry_eq]
  generalize (lg_sl ([.ref (Ad 1), .ref (Ad 5), .ref (Ad 6), .ref (Ad 8)]) ++ List.replicate (12 - (lg_sl ([.ref (Ad 1), .ref (Ad 5), .ref (Ad 6), .ref (Ad 8)])).length) Slot.unset).toArray = ls at hl ⊢
  have hl : lv_has ls 12 [(0, .ref (Ad 1)), (1, .ref (Ad 5)), (2, .ref (Ad 6)), (3, .ref (Ad 8))] := hl
  obtain ⟨i1, i2, ⟨m9, p9, j1, j2, j3⟩, i4, i5, i6, i7⟩ := id hI
  have hp9 : p9 < 2 ^ 20 := Nat.lt_of_le_of_lt psum_p (by rw [j3]; exact ha)
  have hm9 : ∀ k, k < 6 → m9 k < 2 ^ 20 := fun k hk => by have := psum_le (p := p9) (m := m9) hk; omega
  have hP : va_P G vwCl (wW T Ad AF ta ca fa ga D mny N f g rk rf rg rh) s.heap := hP
  refine lv_aload_n hx hb dL_areNames_0 rfl (lv_at hl 0 rfl) ?_
  refine gciT (X := wX4 T Ad ta ca fa ga) (va_runV (As := []) (rest := []) ⟨hx, hb, hml, hown, hts⟩ (cX2_takings_c l hl0 G T Ad AF D mny N f g rk rf rg rh _) (cwV 0 hts gL_areNames_X2_takings rfl rfl rfl (by decide +kernel) ⟨Nat.le_of_ble_eq_true rfl, Nat.le_of_ble_eq_true rfl⟩) ⟨gblind, va_recv hK hP (ci := 2) (q0 := 4) rfl rfl, gpreT (X := wX4 T Ad ta ca fa ga) hE hK hP hD hS hA⟩ rfl rfl hl.1 rfl (lv_room (Nat.le_of_ble_eq_true rfl)) dL_areNames_1 ⟨Nat.le_of_ble_eq_true rfl, Nat.le_of_ble_eq_true rfl⟩) hP hD hS hA wC_fst (fun r9 H locs hw hP hD hS => ?_)
  have hP : va_P G vwCl (wW T Ad AF ta ca fa ga D mny N f g rk rf rg rh) H := hP
  have hD : va_D (va_A (wW T Ad AF ta ca fa ga D mny N f g rk rf rg rh) s.heap.size) (wW T Ad AF ta ca fa ga D mny N f g rk rf rg rh) := hD
  subst hw
  refine gtop (y := nI p9) j1 ?_
  refine lv_istore (lv' := [(4, .int (nI p9)), (0, .ref (Ad 1)), (1, .ref (Ad 5)), (2, .ref (Ad 6)), (3, .ref (Ad 8))]) hx hb dL_areNames_4 hl (by decide) rfl (fun ls hl => ?_)
  refine lv_aload_n hx hb dL_areNames_6 rfl (lv_at hl 1 rfl) ?_
  refine gciT (X := wX4 T Ad ta ca fa ga) (va_runV (As := []) (rest := []) ⟨hx, hb, hml, hown, hts⟩ (cX2_today_c l hl0 G T Ad AF D mny N f g rk rf rg rh _) (cwV 0 hts gL_areNames_X2_today rfl rfl rfl (by decide +kernel) ⟨Nat.le_of_ble_eq_true rfl, Nat.le_of_ble_eq_true rfl⟩) ⟨gblind, va_recv hK hP (ci := 2) (q0 := 4) rfl rfl, gpreT (X := wX4 T Ad ta ca fa ga) hE hK hP hD hS hA⟩ rfl rfl hl.1 rfl (lv_room (Nat.le_of_ble_eq_true rfl)) dL_areNames_7 ⟨Nat.le_of_ble_eq_true rfl, Nat.le_of_ble_eq_true rfl⟩) hP hD hS hA wC_fst (fun r9 H locs hw hP hD hS => ?_)
  have hP : va_P G vwCl (wW T Ad AF ta ca fa ga D mny N f g rk rf rg rh) H := hP
  have hD : va_D (va_A (wW T Ad AF ta ca fa ga D mny N f g rk rf rg rh) s.heap.size) (wW T Ad AF ta ca fa ga D mny N f g rk rf rg rh) := hD
  subst hw
  refine lv_aload_n hx hb dL_areNames_10 rfl (lv_at hl 4 rfl) ?_
  refine lv_iconst (v := 0) hx hb dL_areNames_11 (by decide) ?_
  refine giald (j := 0) hx hb hK hP 3 0 rfl rfl (show (0 : Int32) = nI 0 from rfl) (by omega) (by decide) dL_areNames_12 ?_
  refine lv_icmp_ne (tgt := 101) hx hb dL_areNames_13 (by decide) (fun c13 => ?_) (fun c13 => ?_)
  · exact absurd (i1.trans i2.symm) c13
  · skip
    refine lv_iload hx hb dL_areNames_16 (lv_at hl 0 rfl) ?_
    refine lv_if_lt (tgt := 101) hx hb dL_areNames_18 (by decide) (fun c18 => ?_) (fun c18 => ?_)
    · exact absurd c18 (nI_pos (by omega))
    · skip
      refine lv_aload_n hx hb dL_areNames_21 rfl (lv_at hl 1 rfl) ?_
      refine lv_iconst (v := 0) hx hb dL_areNames_22 (by decide) ?_
      refine lv_bipush (v := 6) hx hb dL_areNames_23 (by decide) ?_
      refine lv_iconst (v := 0) hx hb dL_areNames_25 (by decide) ?_
      refine gciT (X := wX4 T Ad ta ca fa ga) (vx_runSW (As := [.ref (Ad 1), .int 0, .int 6, .int 0]) (rest := []) ⟨hx, hb, hml, hown, hts⟩ (cL_asks_0_noc l hl0 G T Ad AF D mny N f g rk rf rg rh 0 6 0 _ (fun h9 => absurd h9 (by decide)) (fun h9 => absurd (h9.symm.trans (show kOwn 6 = 1 by decide)) (by decide))) (vx_cwSW 4 hts gL_areNames_L_asks rfl rfl rfl (by decide +kernel) ⟨Nat.le_of_ble_eq_true rfl, Nat.le_of_ble_eq_true rfl⟩) ⟨gblind, gpreT (X := wX4 T Ad ta ca fa ga) hE hK hP hD hS hA⟩ rfl rfl hl.1 rfl (lv_room (Nat.le_of_ble_eq_true rfl)) dL_areNames_26 ⟨Nat.le_of_ble_eq_true rfl, Nat.le_of_ble_eq_true rfl⟩) hP hD hS hA wC_fst (fun r9 H locs hw hP hD hS => ?_)
      have hP : va_P G vwCl (wW T Ad AF ta ca fa ga D mny N f g rk rf rg rh) H := hP
      have hD : va_D (va_A (wW T Ad AF ta ca fa ga D mny N f g rk rf rg rh) s.heap.size) (wW T Ad AF ta ca fa ga D mny N f g rk rf rg rh) := hD
      subst hw
      refine gtop (y := (-30)) (wD_30 (show kOwn 6 = 1 by decide)) ?_
      refine lv_bipush (v := (-30)) hx hb dL_areNames_29 (by decide) ?_
      refine lv_icmp_ne (tgt := 101) hx hb dL_areNames_31 (by decide) (fun c31 => ?_) (fun c31 => ?_)
      · exact absurd c31 (by decide)
      · skip
        refine lv_aload_n hx hb dL_areNames_34 rfl (lv_at hl 1 rfl) ?_
        refine lv_iconst (v := 1) hx hb dL_areNames_35 (by decide) ?_
        refine lv_bipush (v := 16) hx hb dL_areNames_36 (by decide) ?_
        refine lv_iconst (v := 0) hx hb dL_areNames_38 (by decide) ?_
        refine gciT (X := wX4 T Ad ta ca fa ga) (vx_runSW (As := [.ref (Ad 1), .int 1, .int 16, .int 0]) (rest := []) ⟨hx, hb, hml, hown, hts⟩ (cL_asks_1_noc l hl0 G T Ad AF D mny N f g rk rf rg rh 0 16 0 _ (by omega) (fun h9 => absurd h9 (by decide)) (fun h9 => absurd (h9.symm.trans (show kNam 16 = 1 by decide)) (by decide))) (vx_cwSW 4 hts gL_areNames_L_asks rfl rfl rfl (by decide +kernel) ⟨Nat.le_of_ble_eq_true rfl, Nat.le_of_ble_eq_true rfl⟩) ⟨gblind, gpreT (X := wX4 T Ad ta ca fa ga) hE hK hP hD hS hA⟩ rfl rfl hl.1 rfl (lv_room (Nat.le_of_ble_eq_true rfl)) dL_areNames_39 ⟨Nat.le_of_ble_eq_true rfl, Nat.le_of_ble_eq_true rfl⟩) hP hD hS hA wC_fst (fun r9 H locs hw hP hD hS => ?_)
        have hP : va_P G vwCl (wW T Ad AF ta ca fa ga D mny N f g rk rf rg rh) H := hP
        have hD : va_D (va_A (wW T Ad AF ta ca fa ga D mny N f g rk rf rg rh) s.heap.size) (wW T Ad AF ta ca fa ga D mny N f g rk rf rg rh) := hD
        subst hw
        refine gtop (y := (-30)) (wD_30 (show kNam 16 = 1 by decide)) ?_
        refine lv_bipush (v := (-30)) hx hb dL_areNames_42 (by decide) ?_
        refine lv_icmp_ne (tgt := 101) hx hb dL_areNames_44 (by decide) (fun c44 => ?_) (fun c44 => ?_)
        · exact absurd c44 (by decide)
        · skip
          refine lv_aload_n hx hb dL_areNames_47 rfl (lv_at hl 1 rfl) ?_
          refine lv_iconst (v := 2) hx hb dL_areNames_48 (by decide) ?_
          refine lv_iconst (v := (-1)) hx hb dL_areNames_49 (by decide) ?_
          refine lv_iconst (v := 0) hx hb dL_areNames_50 (by decide) ?_
          refine gciT (X := wX4 T Ad ta ca fa ga) (vx_runSW (As := [.ref (Ad 1), .int 2, .int (-1), .int 0]) (rest := []) ⟨hx, hb, hml, hown, hts⟩ (cL_asks_2_noc l hl0 G T Ad AF D mny N f g rk rf rg rh 0 (-1) 0 _ (by omega) (fun h9 => absurd h9 (by decide)) (fun h9 => absurd (h9.symm.trans (show kNam (-1) = 1 by decide)) (by decide))) (vx_cwSW 4 hts gL_areNames_L_asks rfl rfl rfl (by decide +kernel) ⟨Nat.le_of_ble_eq_true rfl, Nat.le_of_ble_eq_true rfl⟩) ⟨gblind, gpreT (X := wX4 T Ad ta ca fa ga) hE hK hP hD hS hA⟩ rfl rfl hl.1 rfl (lv_room (Nat.le_of_ble_eq_true rfl)) dL_areNames_51 ⟨Nat.le_of_ble_eq_true rfl, Nat.le_of_ble_eq_true rfl⟩) hP hD hS hA wC_fst (fun r9 H locs hw hP hD hS => ?_)
          have hP : va_P G vwCl (wW T Ad AF ta ca fa ga D mny N f g rk rf rg rh) H := hP
          have hD : va_D (va_A (wW T Ad AF ta ca fa ga D mny N f g rk rf rg rh) s.heap.size) (wW T Ad AF ta ca fa ga D mny N f g rk rf rg rh) := hD
          subst hw
          refine gtop (y := (-30)) (wD_30 (show kNam (-1) = 1 by decide)) ?_
          refine lv_bipush (v := (-30)) hx hb dL_areNames_54 (by decide) ?_
          refine lv_icmp_ne (tgt := 101) hx hb dL_areNames_56 (by decide) (fun c56 => ?_) (fun c56 => ?_)
          · exact absurd c56 (by decide)
          · skip
            refine lv_aload_n hx hb dL_areNames_59 rfl (lv_at hl 1 rfl) ?_
            refine lv_iconst (v := 3) hx hb dL_areNames_60 (by decide) ?_
            refine lv_bipush (v := 16) hx hb dL_areNames_61 (by decide) ?_
            refine lv_iconst (v := 0) hx hb dL_areNames_63 (by decide) ?_
            refine gciT (X := wX4 T Ad ta ca fa ga) (vx_runSW (As := [.ref (Ad 1), .int 3, .int 16, .int 0]) (rest := []) ⟨hx, hb, hml, hown, hts⟩ (cL_asks_3_noc l hl0 G T aK aV Ad AF D mny N f g rk rf rg rh 0 16 0 _ (by omega) (fun h9 => absurd h9 (by decide)) (fun h9 => absurd (h9.symm.trans (show kSign (N 0) 16 0 = 1 by rw [kSign, if_neg (by decide)])) (by decide))) (vx_cwSW 4 hts gL_areNames_L_asks rfl rfl rfl (by decide +kernel) ⟨Nat.le_of_ble_eq_true rfl, Nat.le_of_ble_eq_true rfl⟩) ⟨gblindW, gpreWT (X := wX4 T Ad ta ca fa ga) hWs hE hK hP hD hS hA⟩ rfl rfl hl.1 rfl (lv_room (Nat.le_of_ble_eq_true rfl)) dL_areNames_64 ⟨Nat.le_of_ble_eq_true rfl, Nat.le_of_ble_eq_true rfl⟩) hP hD hS hA wC_fst (fun r9 H locs hw hP hD hS => ?_)
            have hP : va_P G vwCl (wW T Ad AF ta ca fa ga D mny N f g rk rf rg rh) H := hP
            have hD : va_D (va_A (wW T Ad AF ta ca fa ga D mny N f g rk rf rg rh) s.heap.size) (wW T Ad AF ta ca fa ga D mny N f g rk rf rg rh) := hD
            subst hw
            refine gtop (y := (-30)) (wD_30 (show kSign (N 0) 16 0 = 1 by rw [kSign, if_neg (by decide)])) ?_
            refine lv_bipush (v := (-30)) hx hb dL_areNames_67 (by decide) ?_
            refine lv_icmp_ne (tgt := 101) hx hb dL_areNames_69 (by decide) (fun c69 => ?_) (fun c69 => ?_)
            · exact absurd c69 (by decide)
            · skip
              refine lv_aload_n hx hb dL_areNames_72 rfl (lv_at hl 1 rfl) ?_
              refine lv_iconst (v := 4) hx hb dL_areNames_73 (by decide) ?_
              refine lv_bipush (v := 16) hx hb dL_areNames_74 (by decide) ?_
              refine lv_iconst (v := 0) hx hb dL_areNames_76 (by decide) ?_
              refine gciT (X := wX4 T Ad ta ca fa ga) (vx_runSW (As := [.ref (Ad 1), .int 4, .int 16, .int 0]) (rest := []) ⟨hx, hb, hml, hown, hts⟩ (cL_asks_4_noc l hl0 G T Ad AF D mny N f g rk rf rg rh 0 16 0 _ (by omega) (fun h9 => absurd h9 (by decide)) (fun h9 => absurd (h9.symm.trans (show kNam 16 = 1 by decide)) (by decide))) (vx_cwSW 4 hts gL_areNames_L_asks rfl rfl rfl (by decide +kernel) ⟨Nat.le_of_ble_eq_true rfl, Nat.le_of_ble_eq_true rfl⟩) ⟨gblind, gpreT (X := wX4 T Ad ta ca fa ga) hE hK hP hD hS hA⟩ rfl rfl hl.1 rfl (lv_room (Nat.le_of_ble_eq_true rfl)) dL_areNames_77 ⟨Nat.le_of_ble_eq_true rfl, Nat.le_of_ble_eq_true rfl⟩) hP hD hS hA wC_fst (fun r9 H locs hw hP hD hS => ?_)
              have hP : va_P G vwCl (wW T Ad AF ta ca fa ga D mny N f g rk rf rg rh) H := hP
              have hD : va_D (va_A (wW T Ad AF ta ca fa ga D mny N f g rk rf rg rh) s.heap.size) (wW T Ad AF ta ca fa ga D mny N f g rk rf rg rh) := hD
              subst hw
              refine gtop (y := (-30)) (wD_30 (show kNam 16 = 1 by decide)) ?_
              refine lv_bipush (v := (-30)) hx hb dL_areNames_80 (by decide) ?_
              refine lv_icmp_ne (tgt := 101) hx hb dL_areNames_82 (by decide) (fun c82 => ?_) (fun c82 => ?_)
              · exact absurd c82 (by decide)
              · skip
                refine lv_aload_n hx hb dL_areNames_85 rfl (lv_at hl 1 rfl) ?_
                refine lv_iconst (v := 5) hx hb dL_areNames_86 (by decide) ?_
                refine lv_iconst (v := (-1)) hx hb dL_areNames_87 (by decide) ?_
                refine lv_iconst (v := 0) hx hb dL_areNames_88 (by decide) ?_
                refine gciT (X := wX4 T Ad ta ca fa ga) (vx_runSW (As := [.ref (Ad 1), .int 5, .int (-1), .int 0]) (rest := []) ⟨hx, hb, hml, hown, hts⟩ (cL_asks_5_noc l hl0 G T Ad AF D mny N f g rk rf rg rh 0 (-1) 0 _ (by omega) (fun h9 => absurd h9 (by decide)) (fun h9 => absurd (h9.symm.trans (show kNam (-1) = 1 by decide)) (by decide))) (vx_cwSW 4 hts gL_areNames_L_asks rfl rfl rfl (by decide +kernel) ⟨Nat.le_of_ble_eq_true rfl, Nat.le_of_ble_eq_true rfl⟩) ⟨gblind, gpreT (X := wX4 T Ad ta ca fa ga) hE hK hP hD hS hA⟩ rfl rfl hl.1 rfl (lv_room (Nat.le_of_ble_eq_true rfl)) dL_areNames_89 ⟨Nat.le_of_ble_eq_true rfl, Nat.le_of_ble_eq_true rfl⟩) hP hD hS hA wC_fst (fun r9 H locs hw hP hD hS => ?_)
                have hP : va_P G vwCl (wW T Ad AF ta ca fa ga D mny N f g rk rf rg rh) H := hP
                have hD : va_D (va_A (wW T Ad AF ta ca fa ga D mny N f g rk rf rg rh) s.heap.size) (wW T Ad AF ta ca fa ga D mny N f g rk rf rg rh) := hD
                subst hw
                refine gtop (y := (-30)) (wD_30 (show kNam (-1) = 1 by decide)) ?_
                refine lv_bipush (v := (-30)) hx hb dL_areNames_92 (by decide) ?_
                refine lv_icmp_ne (tgt := 101) hx hb dL_areNames_94 (by decide) (fun c94 => ?_) (fun c94 => ?_)
                · exact absurd c94 (by decide)
                · skip
                  refine lv_iconst (v := 1) hx hb dL_areNames_97 (by decide) ?_
                  refine lv_goto (tgt := 102) hx hb dL_areNames_98 (by decide) ?_
                  refine lv_istore (lv' := [(5, .int 1), (4, .int (nI p9)), (0, .ref (Ad 1)), (1, .ref (Ad 5)), (2, .ref (Ad 6)), (3, .ref (Ad 8))]) hx hb dL_areNames_102 hl (by decide) rfl (fun ls hl => ?_)
                  refine lv_iconst (v := 0) hx hb dL_areNames_104 (by decide) ?_
                  refine lv_istore (lv' := [(6, .int 0), (5, .int 1), (4, .int (nI p9)), (0, .ref (Ad 1)), (1, .ref (Ad 5)), (2, .ref (Ad 6)), (3, .ref (Ad 8))]) hx hb dL_areNames_105 hl (by decide) rfl (fun ls hl => ?_)
                  have J107 : ∀ n9 : Nat, ∀ (i : Nat) (H : Heap) (locs : List Loc) (ls : Array Slot), (i ≤ 6) → (7 ≤ i + n9) → va_P G vwCl (wW T Ad AF ta ca fa ga D mny N f g rk rf rg rh) H → va_D (va_A (wW T Ad AF ta ca fa ga D mny N f g rk rf rg rh) s.heap.size) (wW T Ad AF ta ca fa ga D mny N f g rk rf rg rh) → va_S (va_A (wW T Ad AF ta ca fa ga D mny N f g rk rf rg rh) s.heap.size) s.heap H locs → lv_has ls 12 [(0, .ref (Ad 1)), (1, .ref (Ad 5)), (2, .ref (Ad 6)), (3, .ref (Ad 8)), (4, .int (nI (psum p9 m9 i))), (5, .int 1), (6, .int (nI i))] → W p l e (headSpec wsL_areNames ({ frames := 9, cells := 8, slots := 48, locals := 151 } : Room)).room s m ([.ref (Ad 1), .ref (Ad 5), .ref (Ad 6), .ref (Ad 8)] : List Value).toArray below meth c H locs 7 42 (MQ below (QL_areNames G T aK aV Ad AF D mny N f g rk rf rg rh ta ca fa ga d a s.heap.size) ([.ref (Ad 1), .ref (Ad 5), .ref (Ad 6), .ref (Ad 8)] : List Value).toArray s 8 48 (va_A (wW T Ad AF ta ca fa ga D mny N f g rk rf rg rh) s.heap.size)) (F0 m 107 ls []) := by
                    intro n9
                    induction n9 with
                    | zero => intro i H locs ls hi hm hP hD hS hl; exact absurd (hm) (by omega)
                    | succ n9 ih107 =>
                      intro i H locs ls hi hm hP hD hS hl
                      refine lv_iload hx hb dL_areNames_107 (lv_at hl 6 rfl) ?_
                      refine lv_bipush (v := 6) hx hb dL_areNames_109 (by decide) ?_
                      refine lv_icmp_ge (tgt := 152) hx hb dL_areNames_111 (by decide) (fun c111 => ?_) (fun c111 => ?_)
                      · skip
                        have hge : i = 6 := by
                          rcases Nat.lt_or_ge i 6 with q | q
                          · exact absurd c111 (nI_ge (b := 6) q (by omega))
                          · omega
                        rw [hge] at hl
                        refine lv_iconst (v := 0) hx hb dL_areNames_152 (by decide) ?_
                        refine lv_istore (lv' := [(6, .int 0), (0, .ref (Ad 1)), (1, .ref (Ad 5)), (2, .ref (Ad 6)), (3, .ref (Ad 8)), (4, .int (nI (psum p9 m9 6))), (5, .int 1)]) hx hb dL_areNames_153 hl (by decide) rfl (fun ls hl => ?_)
                        have J155 : ∀ n8 : Nat, ∀ (j : Nat) (H : Heap) (locs : List Loc) (ls : Array Slot), (j ≤ 16) → (17 ≤ j + n8) → va_P G vwCl (wW T Ad AF ta ca fa ga D mny N f g rk rf rg rh) H → va_D (va_A (wW T Ad AF ta ca fa ga D mny N f g rk rf rg rh) s.heap.size) (wW T Ad AF ta ca fa ga D mny N f g rk rf rg rh) → va_S (va_A (wW T Ad AF ta ca fa ga D mny N f g rk rf rg rh) s.heap.size) s.heap H locs → lv_has ls 12 [(0, .ref (Ad 1)), (1, .ref (Ad 5)), (2, .ref (Ad 6)), (3, .ref (Ad 8)), (4, .int (nI (psum p9 m9 6))), (5, .int 1), (6, .int (nI j))] → W p l e (headSpec wsL_areNames ({ frames := 9, cells := 8, slots := 48, locals := 151 } : Room)).room s m ([.ref (Ad 1), .ref (Ad 5), .ref (Ad 6), .ref (Ad 8)] : List Value).toArray below meth c H locs 7 42 (MQ below (QL_areNames G T aK aV Ad AF D mny N f g rk rf rg rh ta ca fa ga d a s.heap.size) ([.ref (Ad 1), .ref (Ad 5), .ref (Ad 6), .ref (Ad 8)] : List Value).toArray s 8 48 (va_A (wW T Ad AF ta ca fa ga D mny N f g rk rf rg rh) s.heap.size)) (F0 m 155 ls []) := by
                          intro n8
                          induction n8 with
                          | zero => intro j H locs ls hi hm2 hP hD hS hl; exact absurd (hm2) (by omega)
                          | succ n8 ih155 =>
                            intro j H locs ls hi hm2 hP hD hS hl
                            refine lv_iload hx hb dL_areNames_155 (lv_at hl 6 rfl) ?_
                            refine lv_bipush (v := 16) hx hb dL_areNames_157 (by decide) ?_
                            refine lv_icmp_ge (tgt := 355) hx hb dL_areNames_159 (by decide) (fun c159 => ?_) (fun c159 => ?_)
                            · skip
                              have hge : j = 16 := by
                                rcases Nat.lt_or_ge j 16 with q | q
                                · exact absurd c159 (nI_ge (b := 16) q (by omega))
                                · omega
                              refine lv_iload hx hb dL_areNames_355 (lv_at hl 5 rfl) ?_
                              refine lv_if_eq (tgt := 372) hx hb dL_areNames_357 (by decide) (fun c357 => ?_) (fun c357 => ?_)
                              · exact absurd c357 (by decide)
                              · skip
                                refine lv_iload hx hb dL_areNames_360 (lv_at hl 4 rfl) ?_
                                refine lv_aload_n hx hb dL_areNames_362 rfl (lv_at hl 3 rfl) ?_
                                refine lv_iconst (v := 1) hx hb dL_areNames_363 (by decide) ?_
                                refine giald (j := 1) hx hb hK hP 3 0 rfl rfl (show (1 : Int32) = nI 1 from rfl) (by omega) (by decide) dL_areNames_364 ?_
                                refine lv_icmp_ne (tgt := 372) hx hb dL_areNames_365 (by decide) (fun c365 => ?_) (fun c365 => ?_)
                                · exact absurd (by rw [j3]; exact i4.symm) c365
                                · skip
                                  refine lv_iconst (v := 1) hx hb dL_areNames_368 (by decide) ?_
                                  refine lv_goto (tgt := 373) hx hb dL_areNames_369 (by decide) ?_
                                  refine W.widen (k := 8) (n := 48) (Nat.le_of_ble_eq_true rfl) (Nat.le_of_ble_eq_true rfl) ?_
                                  exact W.zret (v := 1) hx hb hr (by decide) (fun t ht9 hW => ⟨⟨1, (), rfl, rfl, gBi ht9 (gfin hP (rfl))⟩, hS.F ht9⟩) hS.2.2 dL_areNames_373
                            · skip
                              have hlt : j < 16 := by
                                rcases Nat.lt_or_ge j 16 with q | q
                                · exact q
                                · exact absurd (show (16 : Int32) ≤ nI j from nI_le (a := 16) q (by omega)) c159
                              obtain ⟨n1, n2⟩ := i5 j hlt
                              have n3 := own9 n1 n2
                              have n4 := n1.cnt9
                              refine lv_iload hx hb dL_areNames_162 (lv_at hl 5 rfl) ?_
                              refine lv_if_eq (tgt := 355) hx hb dL_areNames_164 (by decide) (fun c164 => ?_) (fun c164 => ?_)
                              · exact absurd c164 (by decide)
                              · skip
                                refine lv_aload_n hx hb dL_areNames_167 rfl (lv_at hl 0 rfl) ?_
                                refine lv_iload hx hb dL_areNames_168 (lv_at hl 6 rfl) ?_
                                refine gciT (X := wX4 T Ad ta ca fa ga) (va_runV (As := [.int (nI j)]) (rest := []) ⟨hx, hb, hml, hown, hts⟩ (cX2_state_c l hl0 G T Ad AF D mny N f g rk rf rg rh j _ (by omega)) (cwV 1 hts gL_areNames_X2_state rfl rfl rfl (by decide +kernel) ⟨Nat.le_of_ble_eq_true rfl, Nat.le_of_ble_eq_true rfl⟩) ⟨gblind, va_recv hK hP (ci := 2) (q0 := 4) rfl rfl, gpreT (X := wX4 T Ad ta ca fa ga) hE hK hP hD hS hA⟩ rfl rfl hl.1 rfl (lv_room (Nat.le_of_ble_eq_true rfl)) dL_areNames_170 ⟨Nat.le_of_ble_eq_true rfl, Nat.le_of_ble_eq_true rfl⟩) hP hD hS hA wC_fst (fun r9 H locs hw hP hD hS => ?_)
                                have hP : va_P G vwCl (wW T Ad AF ta ca fa ga D mny N f g rk rf rg rh) H := hP
                                have hD : va_D (va_A (wW T Ad AF ta ca fa ga D mny N f g rk rf rg rh) s.heap.size) (wW T Ad AF ta ca fa ga D mny N f g rk rf rg rh) := hD
                                subst hw
                                refine lv_istore (lv' := [(7, .int (N j 0)), (0, .ref (Ad 1)), (1, .ref (Ad 5)), (2, .ref (Ad 6)), (3, .ref (Ad 8)), (4, .int (nI (psum p9 m9 6))), (5, .int 1), (6, .int (nI j))]) hx hb dL_areNames_173 hl (by decide) rfl (fun ls hl => ?_)
                                refine lv_aload_n hx hb dL_areNames_175 rfl (lv_at hl 1 rfl) ?_
                                refine lv_iload hx hb dL_areNames_176 (lv_at hl 7 rfl) ?_
                                refine gciT (X := wX4 T Ad ta ca fa ga) (va_runV (As := [.int (nI j)]) (rest := []) ⟨hx, hb, hml, hown, hts⟩ (cX2_owner_c l hl0 G T Ad AF D mny N f g rk rf rg rh j _ (by omega)) (cwV 1 hts gL_areNames_X2_owner rfl rfl rfl (by decide +kernel) ⟨Nat.le_of_ble_eq_true rfl, Nat.le_of_ble_eq_true rfl⟩) ⟨gblind, va_recv hK hP (ci := 2) (q0 := 4) rfl rfl, gpreT (X := wX4 T Ad ta ca fa ga) hE hK hP hD hS hA⟩ rfl rfl hl.1 rfl (lv_room (Nat.le_of_ble_eq_true rfl)) dL_areNames_178 ⟨Nat.le_of_ble_eq_true rfl, Nat.le_of_ble_eq_true rfl⟩) hP hD hS hA wC_fst (fun r9 H locs hw hP hD hS => ?_)
                                have hP : va_P G vwCl (wW T Ad AF ta ca fa ga D mny N f g rk rf rg rh) H := hP
                                have hD : va_D (va_A (wW T Ad AF ta ca fa ga D mny N f g rk rf rg rh) s.heap.size) (wW T Ad AF ta ca fa ga D mny N f g rk rf rg rh) := hD
                                subst hw
                                refine lv_istore (lv' := [(8, .int (N j 1)), (7, .int (N j 0)), (0, .ref (Ad 1)), (1, .ref (Ad 5)), (2, .ref (Ad 6)), (3, .ref (Ad 8)), (4, .int (nI (psum p9 m9 6))), (5, .int 1), (6, .int (nI j))]) hx hb dL_areNames_181 hl (by decide) rfl (fun ls hl => ?_)
                                refine lv_aload_n hx hb dL_areNames_183 rfl (lv_at hl 2 rfl) ?_
                                refine lv_iload hx hb dL_areNames_184 (lv_at hl 8 rfl) ?_
                                refine gciT (X := wX4 T Ad ta ca fa ga) (va_runV (As := [.int (nI j)]) (rest := []) ⟨hx, hb, hml, hown, hts⟩ (cX2_next_c l hl0 G T Ad AF D mny N f g rk rf rg rh j _ (by omega)) (cwV 1 hts gL_areNames_X2_next rfl rfl rfl (by decide +kernel) ⟨Nat.le_of_ble_eq_true rfl, Nat.le_of_ble_eq_true rfl⟩) ⟨gblind, va_recv hK hP (ci := 2) (q0 := 4) rfl rfl, gpreT (X := wX4 T Ad ta ca fa ga) hE hK hP hD hS hA⟩ rfl rfl hl.1 rfl (lv_room (Nat.le_of_ble_eq_true rfl)) dL_areNames_186 ⟨Nat.le_of_ble_eq_true rfl, Nat.le_of_ble_eq_true rfl⟩) hP hD hS hA wC_fst (fun r9 H locs hw hP hD hS => ?_)
                                have hP : va_P G vwCl (wW T Ad AF ta ca fa ga D mny N f g rk rf rg rh) H := hP
                                have hD : va_D (va_A (wW T Ad AF ta ca fa ga D mny N f g rk rf rg rh) s.heap.size) (wW T Ad AF ta ca fa ga D mny N f g rk rf rg rh) := hD
                                subst hw
                                refine lv_istore (lv' := [(9, .int (sDay (N j))), (8, .int (N j 1)), (7, .int (N j 0)), (0, .ref (Ad 1)), (1, .ref (Ad 5)), (2, .ref (Ad 6)), (3, .ref (Ad 8)), (4, .int (nI (psum p9 m9 6))), (5, .int 1), (6, .int (nI j))]) hx hb dL_areNames_189 hl (by decide) rfl (fun ls hl => ?_)
                                refine lv_aload_n hx hb dL_areNames_191 rfl (lv_at hl 3 rfl) ?_
                                refine lv_iload hx hb dL_areNames_192 (lv_at hl 9 rfl) ?_
                                refine gciT (X := wX4 T Ad ta ca fa ga) (va_runV (As := [.int (nI j)]) (rest := []) ⟨hx, hb, hml, hown, hts⟩ (cX2_bids_c l hl0 G T Ad AF D mny N f g rk rf rg rh j _ (by omega)) (cwV 1 hts gL_areNames_X2_bids rfl rfl rfl (by decide +kernel) ⟨Nat.le_of_ble_eq_true rfl, Nat.le_of_ble_eq_true rfl⟩) ⟨gblind, va_recv hK hP (ci := 2) (q0 := 4) rfl rfl, gpreT (X := wX4 T Ad ta ca fa ga) hE hK hP hD hS hA⟩ rfl rfl hl.1 rfl (lv_room (Nat.le_of_ble_eq_true rfl)) dL_areNames_194 ⟨Nat.le_of_ble_eq_true rfl, Nat.le_of_ble_eq_true rfl⟩) hP hD hS hA wC_fst (fun r9 H locs hw hP hD hS => ?_)
                                have hP : va_P G vwCl (wW T Ad AF ta ca fa ga D mny N f g rk rf rg rh) H := hP
                                have hD : va_D (va_A (wW T Ad AF ta ca fa ga D mny N f g rk rf rg rh) s.heap.size) (wW T Ad AF ta ca fa ga D mny N f g rk rf rg rh) := hD
                                subst hw
                                refine lv_istore (lv' := [(10, .int (sCnt (f j) 6)), (9, .int (sDay (N j))), (8, .int (N j 1)), (7, .int (N j 0)), (0, .ref (Ad 1)), (1, .ref (Ad 5)), (2, .ref (Ad 6)), (3, .ref (Ad 8)), (4, .int (nI (psum p9 m9 6))), (5, .int 1), (6, .int (nI j))]) hx hb dL_areNames_197 hl (by decide) rfl (fun ls hl => ?_)
                                refine lv_iload hx hb dL_areNames_199 (lv_at hl 3 rfl) ?_
                                refine lv_iconst (v := 1) hx hb dL_areNames_201 (by decide) ?_
                                refine lv_icmp_le (tgt := 225) hx hb dL_areNames_202 (by decide) (fun c202 => ?_) (fun c202 => ?_)
                                · skip
                                  refine lv_iconst (v := 0) hx hb dL_areNames_225 (by decide) ?_
                                  refine lv_istore (lv' := [(11, .int 0), (10, .int (sCnt (f j) 6)), (9, .int (sDay (N j))), (8, .int (N j 1)), (7, .int (N j 0)), (0, .ref (Ad 1)), (1, .ref (Ad 5)), (2, .ref (Ad 6)), (3, .ref (Ad 8)), (4, .int (nI (psum p9 m9 6))), (5, .int 1), (6, .int (nI j))]) hx hb dL_areNames_226 hl (by decide) rfl (fun ls hl => ?_)
                                  refine lv_iload hx hb dL_areNames_228 (lv_at hl 4 rfl) ?_
                                  refine lv_aload_n hx hb dL_areNames_230 rfl (lv_at hl 6 rfl) ?_
                                  refine lv_iload hx hb dL_areNames_231 (lv_at hl 11 rfl) ?_
                                  refine giald (j := j) hx hb hK hP 0 0 rfl rfl (show (nI j : Int32) = nI j from rfl) (by omega) (by decide) dL_areNames_233 ?_
                                  refine lv_icmp_ne (tgt := 346) hx hb dL_areNames_234 (by decide) (fun c234 => ?_) (fun c234 => ?_)
                                  · exact absurd n2.1.symm c234
                                  · skip
                                    refine lv_iload hx hb dL_areNames_237 (lv_at hl 3 rfl) ?_
                                    refine lv_aload_n hx hb dL_areNames_239 rfl (lv_at hl 6 rfl) ?_
                                    refine lv_bipush (v := 16) hx hb dL_areNames_240 (by decide) ?_
                                    refine lv_iload hx hb dL_areNames_242 (lv_at hl 11 rfl) ?_
                                    refine lv_iadd hx hb dL_areNames_244 ?_
                                    refine gtop (y := nI (16 + j)) (nI_add 16 j) ?_
                                    refine giald (j := (16 + j)) hx hb hK hP 0 0 rfl rfl (show (nI (16 + j) : Int32) = nI (16 + j) from rfl) (by omega) (by decide) dL_areNames_245 ?_
                                    refine lv_icmp_ne (tgt := 346) hx hb dL_areNames_246 (by decide) (fun c246 => ?_) (fun c246 => ?_)
                                    · exact absurd n2.2.1.symm c246
                                    · skip
                                      refine lv_iload hx hb dL_areNames_249 (lv_at hl 2 rfl) ?_
                                      refine lv_aload_n hx hb dL_areNames_251 rfl (lv_at hl 6 rfl) ?_
                                      refine lv_bipush (v := 32) hx hb dL_areNames_252 (by decide) ?_
                                      refine lv_iload hx hb dL_areNames_254 (lv_at hl 11 rfl) ?_
                                      refine lv_iadd hx hb dL_areNames_256 ?_
                                      refine gtop (y := nI (32 + j)) (nI_add 32 j) ?_
                                      refine giald (j := (32 + j)) hx hb hK hP 0 0 rfl rfl (show (nI (32 + j) : Int32) = nI (32 + j) from rfl) (by omega) (by decide) dL_areNames_257 ?_
                                      refine lv_icmp_ne (tgt := 346) hx hb dL_areNames_258 (by decide) (fun c258 => ?_) (fun c258 => ?_)
                                      · exact absurd n2.2.2.1.symm c258
                                      · skip
                                        refine lv_iload hx hb dL_areNames_261 (lv_at hl 3 rfl) ?_
                                        refine lv_if_lt (tgt := 270) hx hb dL_areNames_263 (by decide) (fun c263 => ?_) (fun c263 => ?_)
                                        · skip
                                          refine lv_iconst (v := 0) hx hb dL_areNames_270 (by decide) ?_
                                          refine lv_iload hx hb dL_areNames_271 (lv_at hl 0 rfl) ?_
                                          refine lv_icmp_ne (tgt := 346) hx hb dL_areNames_273 (by decide) (fun c273 => ?_) (fun c273 => ?_)
                                          · exact absurd c273 (by decide)
                                          · skip
                                            refine lv_iload hx hb dL_areNames_276 (lv_at hl 3 rfl) ?_
                                            refine lv_bipush (v := 6) hx hb dL_areNames_278 (by decide) ?_
                                            refine lv_icmp_ge (tgt := 346) hx hb dL_areNames_280 (by decide) (fun c280 => ?_) (fun c280 => ?_)
                                            · exact absurd c280 n1.own6
                                            · skip
                                              refine lv_iload hx hb dL_areNames_283 (lv_at hl 1 rfl) ?_
                                              refine lv_if_le (tgt := 292) hx hb dL_areNames_285 (by decide) (fun c285 => ?_) (fun c285 => ?_)
                                              · skip
                                                refine lv_iconst (v := 0) hx hb dL_areNames_292 (by decide) ?_
                                                refine lv_iload hx hb dL_areNames_293 (lv_at hl 4 rfl) ?_
                                                refine lv_iconst (v := 1) hx hb dL_areNames_295 (by decide) ?_
                                                refine lv_icmp_ne (tgt := 303) hx hb dL_areNames_296 (by decide) (fun c296 => ?_) (fun c296 => ?_)
                                                · skip
                                                  refine lv_iconst (v := 0) hx hb dL_areNames_303 (by decide) ?_
                                                  refine lv_icmp_ne (tgt := 346) hx hb dL_areNames_304 (by decide) (fun c304 => ?_) (fun c304 => ?_)
                                                  · exact absurd c304 (by decide)
                                                  · skip
                                                    refine lv_iload hx hb dL_areNames_307 (lv_at hl 1 rfl) ?_
                                                    refine lv_bipush (v := 7) hx hb dL_areNames_309 (by decide) ?_
                                                    refine lv_icmp_ge (tgt := 346) hx hb dL_areNames_311 (by decide) (fun c311 => ?_) (fun c311 => ?_)
                                                    · exact absurd c311 (cnt7 _)
                                                    · skip
                                                      refine lv_iload hx hb dL_areNames_314 (lv_at hl 4 rfl) ?_
                                                      refine lv_if_eq (tgt := 325) hx hb dL_areNames_316 (by decide) (fun c316 => ?_) (fun c316 => ?_)
                                                      · skip
                                                        refine lv_iload hx hb dL_areNames_325 (lv_at hl 2 rfl) ?_
                                                        refine lv_iconst (v := (-1)) hx hb dL_areNames_327 (by decide) ?_
                                                        refine lv_icmp_ne (tgt := 346) hx hb dL_areNames_328 (by decide) (fun c328 => ?_) (fun c328 => ?_)
                                                        · exact absurd (NI.day5 (Or.inl c316)) c328
                                                        · skip
                                                          refine lv_goto (tgt := 342) hx hb dL_areNames_331 (by decide) ?_
                                                          refine lv_iconst (v := 1) hx hb dL_areNames_342 (by decide) ?_
                                                          refine lv_goto (tgt := 347) hx hb dL_areNames_343 (by decide) ?_
                                                          refine lv_istore (lv' := [(5, .int 1), (11, .int 0), (10, .int (sCnt (f j) 6)), (9, .int (sDay (N j))), (8, .int (N j 1)), (7, .int (N j 0)), (0, .ref (Ad 1)), (1, .ref (Ad 5)), (2, .ref (Ad 6)), (3, .ref (Ad 8)), (4, .int (nI (psum p9 m9 6))), (6, .int (nI j))]) hx hb dL_areNames_347 hl (by decide) rfl (fun ls hl => ?_)
                                                          refine lv_iinc (v := nI (j + 1)) (lv' := [(6, .int (nI (j + 1))), (5, .int 1), (11, .int 0), (10, .int (sCnt (f j) 6)), (9, .int (sDay (N j))), (8, .int (N j 1)), (7, .int (N j 0)), (0, .ref (Ad 1)), (1, .ref (Ad 5)), (2, .ref (Ad 6)), (3, .ref (Ad 8)), (4, .int (nI (psum p9 m9 6)))]) hx hb dL_areNames_349 hl (k := 11) rfl (by first | rfl | exact (nI_add j 1)) (by decide) rfl (fun ls hl => ?_)
                                                          refine lv_goto (tgt := 155) hx hb dL_areNames_352 (by decide) ?_
                                                          exact ih155 (j + 1) _ _ _ (by omega) (by omega) hP hD hS (lv_sub hl [7, 8, 9, 10, 11, 1, 0] rfl)
                                                      · skip
                                                        refine lv_iload hx hb dL_areNames_319 (lv_at hl 4 rfl) ?_
                                                        refine lv_iconst (v := 5) hx hb dL_areNames_321 (by decide) ?_
                                                        refine lv_icmp_ne (tgt := 334) hx hb dL_areNames_322 (by decide) (fun c322 => ?_) (fun c322 => ?_)
                                                        · skip
                                                          refine lv_iload hx hb dL_areNames_334 (lv_at hl 2 rfl) ?_
                                                          refine lv_aload_n hx hb dL_areNames_336 rfl (lv_at hl 8 rfl) ?_
                                                          refine lv_iconst (v := 0) hx hb dL_areNames_337 (by decide) ?_
                                                          refine giald (j := 0) hx hb hK hP 3 0 rfl rfl (show (0 : Int32) = nI 0 from rfl) (by omega) (by decide) dL_areNames_338 ?_
                                                          refine lv_icmp_le (tgt := 346) hx hb dL_areNames_339 (by decide) (fun c339 => ?_) (fun c339 => ?_)
                                                          · exact absurd (by rw [← i2]; exact c339) (n1.day9 (by omega) c316 c322)
                                                          · skip
                                                            refine lv_iconst (v := 1) hx hb dL_areNames_342 (by decide) ?_
                                                            refine lv_goto (tgt := 347) hx hb dL_areNames_343 (by decide) ?_
                                                            refine lv_istore (lv' := [(5, .int 1), (11, .int 0), (10, .int (sCnt (f j) 6)), (9, .int (sDay (N j))), (8, .int (N j 1)), (7, .int (N j 0)), (0, .ref (Ad 1)), (1, .ref (Ad 5)), (2, .ref (Ad 6)), (3, .ref (Ad 8)), (4, .int (nI (psum p9 m9 6))), (6, .int (nI j))]) hx hb dL_areNames_347 hl (by decide) rfl (fun ls hl => ?_)
                                                            refine lv_iinc (v := nI (j + 1)) (lv' := [(6, .int (nI (j + 1))), (5, .int 1), (11, .int 0), (10, .int (sCnt (f j) 6)), (9, .int (sDay (N j))), (8, .int (N j 1)), (7, .int (N j 0)), (0, .ref (Ad 1)), (1, .ref (Ad 5)), (2, .ref (Ad 6)), (3, .ref (Ad 8)), (4, .int (nI (psum p9 m9 6)))]) hx hb dL_areNames_349 hl (k := 11) rfl (by first | rfl | exact (nI_add j 1)) (by decide) rfl (fun ls hl => ?_)
                                                            refine lv_goto (tgt := 155) hx hb dL_areNames_352 (by decide) ?_
                                                            exact ih155 (j + 1) _ _ _ (by omega) (by omega) hP hD hS (lv_sub hl [7, 8, 9, 10, 11, 1, 0] rfl)
                                                        · skip
                                                          refine lv_iload hx hb dL_areNames_325 (lv_at hl 2 rfl) ?_
                                                          refine lv_iconst (v := (-1)) hx hb dL_areNames_327 (by decide) ?_
                                                          refine lv_icmp_ne (tgt := 346) hx hb dL_areNames_328 (by decide) (fun c328 => ?_) (fun c328 => ?_)
                                                          · exact absurd (NI.day5 (Or.inr c322)) c328
                                                          · skip
                                                            refine lv_goto (tgt := 342) hx hb dL_areNames_331 (by decide) ?_
                                                            refine lv_iconst (v := 1) hx hb dL_areNames_342 (by decide) ?_
                                                            refine lv_goto (tgt := 347) hx hb dL_areNames_343 (by decide) ?_
                                                            refine lv_istore (lv' := [(5, .int 1), (11, .int 0), (10, .int (sCnt (f j) 6)), (9, .int (sDay (N j))), (8, .int (N j 1)), (7, .int (N j 0)), (0, .ref (Ad 1)), (1, .ref (Ad 5)), (2, .ref (Ad 6)), (3, .ref (Ad 8)), (4, .int (nI (psum p9 m9 6))), (6, .int (nI j))]) hx hb dL_areNames_347 hl (by decide) rfl (fun ls hl => ?_)
                                                            refine lv_iinc (v := nI (j + 1)) (lv' := [(6, .int (nI (j + 1))), (5, .int 1), (11, .int 0), (10, .int (sCnt (f j) 6)), (9, .int (sDay (N j))), (8, .int (N j 1)), (7, .int (N j 0)), (0, .ref (Ad 1)), (1, .ref (Ad 5)), (2, .ref (Ad 6)), (3, .ref (Ad 8)), (4, .int (nI (psum p9 m9 6)))]) hx hb dL_areNames_349 hl (k := 11) rfl (by first | rfl | exact (nI_add j 1)) (by decide) rfl (fun ls hl => ?_)
                                                            refine lv_goto (tgt := 155) hx hb dL_areNames_352 (by decide) ?_
                                                            exact ih155 (j + 1) _ _ _ (by omega) (by omega) hP hD hS (lv_sub hl [7, 8, 9, 10, 11, 1, 0] rfl)
                                                · exact absurd c296 (n4.mp c285)
                                              · skip
                                                refine lv_iconst (v := 1) hx hb dL_areNames_288 (by decide) ?_
                                                refine lv_goto (tgt := 293) hx hb dL_areNames_289 (by decide) ?_
                                                refine lv_iload hx hb dL_areNames_293 (lv_at hl 4 rfl) ?_
                                                refine lv_iconst (v := 1) hx hb dL_areNames_295 (by decide) ?_
                                                refine lv_icmp_ne (tgt := 303) hx hb dL_areNames_296 (by decide) (fun c296 => ?_) (fun c296 => ?_)
                                                · exact absurd (n4.mpr c296) c285
                                                · skip
                                                  refine lv_iconst (v := 1) hx hb dL_areNames_299 (by decide) ?_
                                                  refine lv_goto (tgt := 304) hx hb dL_areNames_300 (by decide) ?_
                                                  refine lv_icmp_ne (tgt := 346) hx hb dL_areNames_304 (by decide) (fun c304 => ?_) (fun c304 => ?_)
                                                  · exact absurd c304 (by decide)
                                                  · skip
                                                    refine lv_iload hx hb dL_areNames_307 (lv_at hl 1 rfl) ?_
                                                    refine lv_bipush (v := 7) hx hb dL_areNames_309 (by decide) ?_
                                                    refine lv_icmp_ge (tgt := 346) hx hb dL_areNames_311 (by decide) (fun c311 => ?_) (fun c311 => ?_)
                                                    · exact absurd c311 (cnt7 _)
                                                    · skip
                                                      refine lv_iload hx hb dL_areNames_314 (lv_at hl 4 rfl) ?_
                                                      refine lv_if_eq (tgt := 325) hx hb dL_areNames_316 (by decide) (fun c316 => ?_) (fun c316 => ?_)
                                                      · exact absurd (c296.symm.trans c316) (by decide)
                                                      · skip
                                                        refine lv_iload hx hb dL_areNames_319 (lv_at hl 4 rfl) ?_
                                                        refine lv_iconst (v := 5) hx hb dL_areNames_321 (by decide) ?_
                                                        refine lv_icmp_ne (tgt := 334) hx hb dL_areNames_322 (by decide) (fun c322 => ?_) (fun c322 => ?_)
                                                        · skip
                                                          refine lv_iload hx hb dL_areNames_334 (lv_at hl 2 rfl) ?_
                                                          refine lv_aload_n hx hb dL_areNames_336 rfl (lv_at hl 8 rfl) ?_
                                                          refine lv_iconst (v := 0) hx hb dL_areNames_337 (by decide) ?_
                                                          refine giald (j := 0) hx hb hK hP 3 0 rfl rfl (show (0 : Int32) = nI 0 from rfl) (by omega) (by decide) dL_areNames_338 ?_
                                                          refine lv_icmp_le (tgt := 346) hx hb dL_areNames_339 (by decide) (fun c339 => ?_) (fun c339 => ?_)
                                                          · exact absurd (by rw [← i2]; exact c339) (n1.day9 (by omega) c316 c322)
                                                          · skip
                                                            refine lv_iconst (v := 1) hx hb dL_areNames_342 (by decide) ?_
                                                            refine lv_goto (tgt := 347) hx hb dL_areNames_343 (by decide) ?_
                                                            refine lv_istore (lv' := [(5, .int 1), (11, .int 0), (10, .int (sCnt (f j) 6)), (9, .int (sDay (N j))), (8, .int (N j 1)), (7, .int (N j 0)), (0, .ref (Ad 1)), (1, .ref (Ad 5)), (2, .ref (Ad 6)), (3, .ref (Ad 8)), (4, .int (nI (psum p9 m9 6))), (6, .int (nI j))]) hx hb dL_areNames_347 hl (by decide) rfl (fun ls hl => ?_)
                                                            refine lv_iinc (v := nI (j + 1)) (lv' := [(6, .int (nI (j + 1))), (5, .int 1), (11, .int 0), (10, .int (sCnt (f j) 6)), (9, .int (sDay (N j))), (8, .int (N j 1)), (7, .int (N j 0)), (0, .ref (Ad 1)), (1, .ref (Ad 5)), (2, .ref (Ad 6)), (3, .ref (Ad 8)), (4, .int (nI (psum p9 m9 6)))]) hx hb dL_areNames_349 hl (k := 11) rfl (by first | rfl | exact (nI_add j 1)) (by decide) rfl (fun ls hl => ?_)
                                                            refine lv_goto (tgt := 155) hx hb dL_areNames_352 (by decide) ?_
                                                            exact ih155 (j + 1) _ _ _ (by omega) (by omega) hP hD hS (lv_sub hl [7, 8, 9, 10, 11, 1, 0] rfl)
                                                        · exact absurd (c296.symm.trans c322) (by decide)
                                        · exact absurd (n3.mpr (Or.inl c202)) c263
                                · skip
                                  refine lv_iload hx hb dL_areNames_205 (lv_at hl 3 rfl) ?_
                                  refine lv_iconst (v := 5) hx hb dL_areNames_207 (by decide) ?_
                                  refine lv_icmp_lt (tgt := 221) hx hb dL_areNames_208 (by decide) (fun c208 => ?_) (fun c208 => ?_)
                                  · skip
                                    refine lv_iconst (v := 1) hx hb dL_areNames_221 (by decide) ?_
                                    refine lv_goto (tgt := 226) hx hb dL_areNames_222 (by decide) ?_
                                    refine lv_istore (lv' := [(11, .int 1), (10, .int (sCnt (f j) 6)), (9, .int (sDay (N j))), (8, .int (N j 1)), (7, .int (N j 0)), (0, .ref (Ad 1)), (1, .ref (Ad 5)), (2, .ref (Ad 6)), (3, .ref (Ad 8)), (4, .int (nI (psum p9 m9 6))), (5, .int 1), (6, .int (nI j))]) hx hb dL_areNames_226 hl (by decide) rfl (fun ls hl => ?_)
                                    refine lv_iload hx hb dL_areNames_228 (lv_at hl 4 rfl) ?_
                                    refine lv_aload_n hx hb dL_areNames_230 rfl (lv_at hl 6 rfl) ?_
                                    refine lv_iload hx hb dL_areNames_231 (lv_at hl 11 rfl) ?_
                                    refine giald (j := j) hx hb hK hP 0 0 rfl rfl (show (nI j : Int32) = nI j from rfl) (by omega) (by decide) dL_areNames_233 ?_
                                    refine lv_icmp_ne (tgt := 346) hx hb dL_areNames_234 (by decide) (fun c234 => ?_) (fun c234 => ?_)
                                    · exact absurd n2.1.symm c234
                                    · skip
                                      refine lv_iload hx hb dL_areNames_237 (lv_at hl 3 rfl) ?_
                                      refine lv_aload_n hx hb dL_areNames_239 rfl (lv_at hl 6 rfl) ?_
                                      refine lv_bipush (v := 16) hx hb dL_areNames_240 (by decide) ?_
                                      refine lv_iload hx hb dL_areNames_242 (lv_at hl 11 rfl) ?_
                                      refine lv_iadd hx hb dL_areNames_244 ?_
                                      refine gtop (y := nI (16 + j)) (nI_add 16 j) ?_
                                      refine giald (j := (16 + j)) hx hb hK hP 0 0 rfl rfl (show (nI (16 + j) : Int32) = nI (16 + j) from rfl) (by omega) (by decide) dL_areNames_245 ?_
                                      refine lv_icmp_ne (tgt := 346) hx hb dL_areNames_246 (by decide) (fun c246 => ?_) (fun c246 => ?_)
                                      · exact absurd n2.2.1.symm c246
                                      · skip
                                        refine lv_iload hx hb dL_areNames_249 (lv_at hl 2 rfl) ?_
                                        refine lv_aload_n hx hb dL_areNames_251 rfl (lv_at hl 6 rfl) ?_
                                        refine lv_bipush (v := 32) hx hb dL_areNames_252 (by decide) ?_
                                        refine lv_iload hx hb dL_areNames_254 (lv_at hl 11 rfl) ?_
                                        refine lv_iadd hx hb dL_areNames_256 ?_
                                        refine gtop (y := nI (32 + j)) (nI_add 32 j) ?_
                                        refine giald (j := (32 + j)) hx hb hK hP 0 0 rfl rfl (show (nI (32 + j) : Int32) = nI (32 + j) from rfl) (by omega) (by decide) dL_areNames_257 ?_
                                        refine lv_icmp_ne (tgt := 346) hx hb dL_areNames_258 (by decide) (fun c258 => ?_) (fun c258 => ?_)
                                        · exact absurd n2.2.2.1.symm c258
                                        · skip
                                          refine lv_iload hx hb dL_areNames_261 (lv_at hl 3 rfl) ?_
                                          refine lv_if_lt (tgt := 270) hx hb dL_areNames_263 (by decide) (fun c263 => ?_) (fun c263 => ?_)
                                          · exact absurd (n3.mp c263) (fun h9 => h9.elim c202 (fun h9 => h9.1 c208))
                                          · skip
                                            refine lv_iconst (v := 1) hx hb dL_areNames_266 (by decide) ?_
                                            refine lv_goto (tgt := 271) hx hb dL_areNames_267 (by decide) ?_
                                            refine lv_iload hx hb dL_areNames_271 (lv_at hl 0 rfl) ?_
                                            refine lv_icmp_ne (tgt := 346) hx hb dL_areNames_273 (by decide) (fun c273 => ?_) (fun c273 => ?_)
                                            · exact absurd c273 (by decide)
                                            · skip
                                              refine lv_iload hx hb dL_areNames_276 (lv_at hl 3 rfl) ?_
                                              refine lv_bipush (v := 6) hx hb dL_areNames_278 (by decide) ?_
                                              refine lv_icmp_ge (tgt := 346) hx hb dL_areNames_280 (by decide) (fun c280 => ?_) (fun c280 => ?_)
                                              · exact absurd c280 n1.own6
                                              · skip
                                                refine lv_iload hx hb dL_areNames_283 (lv_at hl 1 rfl) ?_
                                                refine lv_if_le (tgt := 292) hx hb dL_areNames_285 (by decide) (fun c285 => ?_) (fun c285 => ?_)
                                                · skip
                                                  refine lv_iconst (v := 0) hx hb dL_areNames_292 (by decide) ?_
                                                  refine lv_iload hx hb dL_areNames_293 (lv_at hl 4 rfl) ?_
                                                  refine lv_iconst (v := 1) hx hb dL_areNames_295 (by decide) ?_
                                                  refine lv_icmp_ne (tgt := 303) hx hb dL_areNames_296 (by decide) (fun c296 => ?_) (fun c296 => ?_)
                                                  · skip
                                                    refine lv_iconst (v := 0) hx hb dL_areNames_303 (by decide) ?_
                                                    refine lv_icmp_ne (tgt := 346) hx hb dL_areNames_304 (by decide) (fun c304 => ?_) (fun c304 => ?_)
                                                    · exact absurd c304 (by decide)
                                                    · skip
                                                      refine lv_iload hx hb dL_areNames_307 (lv_at hl 1 rfl) ?_
                                                      refine lv_bipush (v := 7) hx hb dL_areNames_309 (by decide) ?_
                                                      refine lv_icmp_ge (tgt := 346) hx hb dL_areNames_311 (by decide) (fun c311 => ?_) (fun c311 => ?_)
                                                      · exact absurd c311 (cnt7 _)
                                                      · skip
                                                        refine lv_iload hx hb dL_areNames_314 (lv_at hl 4 rfl) ?_
                                                        refine lv_if_eq (tgt := 325) hx hb dL_areNames_316 (by decide) (fun c316 => ?_) (fun c316 => ?_)
                                                        · skip
                                                          refine lv_iload hx hb dL_areNames_325 (lv_at hl 2 rfl) ?_
                                                          refine lv_iconst (v := (-1)) hx hb dL_areNames_327 (by decide) ?_
                                                          refine lv_icmp_ne (tgt := 346) hx hb dL_areNames_328 (by decide) (fun c328 => ?_) (fun c328 => ?_)
                                                          · exact absurd (NI.day5 (Or.inl c316)) c328
                                                          · skip
                                                            refine lv_goto (tgt := 342) hx hb dL_areNames_331 (by decide) ?_
                                                            refine lv_iconst (v := 1) hx hb dL_areNames_342 (by decide) ?_
                                                            refine lv_goto (tgt := 347) hx hb dL_areNames_343 (by decide) ?_
                                                            refine lv_istore (lv' := [(5, .int 1), (11, .int 1), (10, .int (sCnt (f j) 6)), (9, .int (sDay (N j))), (8, .int (N j 1)), (7, .int (N j 0)), (0, .ref (Ad 1)), (1, .ref (Ad 5)), (2, .ref (Ad 6)), (3, .ref (Ad 8)), (4, .int (nI (psum p9 m9 6))), (6, .int (nI j))]) hx hb dL_areNames_347 hl (by decide) rfl (fun ls hl => ?_)
                                                            refine lv_iinc (v := nI (j + 1)) (lv' := [(6, .int (nI (j + 1))), (5, .int 1), (11, .int 1), (10, .int (sCnt (f j) 6)), (9, .int (sDay (N j))), (8, .int (N j 1)), (7, .int (N j 0)), (0, .ref (Ad 1)), (1, .ref (Ad 5)), (2, .ref (Ad 6)), (3, .ref (Ad 8)), (4, .int (nI (psum p9 m9 6)))]) hx hb dL_areNames_349 hl (k := 11) rfl (by first | rfl | exact (nI_add j 1)) (by decide) rfl (fun ls hl => ?_)
                                                            refine lv_goto (tgt := 155) hx hb dL_areNames_352 (by decide) ?_
                                                            exact ih155 (j + 1) _ _ _ (by omega) (by omega) hP hD hS (lv_sub hl [7, 8, 9, 10, 11, 1, 0] rfl)
                                                        · skip
                                                          refine lv_iload hx hb dL_areNames_319 (lv_at hl 4 rfl) ?_
                                                          refine lv_iconst (v := 5) hx hb dL_areNames_321 (by decide) ?_
                                                          refine lv_icmp_ne (tgt := 334) hx hb dL_areNames_322 (by decide) (fun c322 => ?_) (fun c322 => ?_)
                                                          · skip
                                                            refine lv_iload hx hb dL_areNames_334 (lv_at hl 2 rfl) ?_
                                                            refine lv_aload_n hx hb dL_areNames_336 rfl (lv_at hl 8 rfl) ?_
                                                            refine lv_iconst (v := 0) hx hb dL_areNames_337 (by decide) ?_
                                                            refine giald (j := 0) hx hb hK hP 3 0 rfl rfl (show (0 : Int32) = nI 0 from rfl) (by omega) (by decide) dL_areNames_338 ?_
                                                            refine lv_icmp_le (tgt := 346) hx hb dL_areNames_339 (by decide) (fun c339 => ?_) (fun c339 => ?_)
                                                            · exact absurd (by rw [← i2]; exact c339) (n1.day9 (by omega) c316 c322)
                                                            · skip
                                                              refine lv_iconst (v := 1) hx hb dL_areNames_342 (by decide) ?_
                                                              refine lv_goto (tgt := 347) hx hb dL_areNames_343 (by decide) ?_
                                                              refine lv_istore (lv' := [(5, .int 1), (11, .int 1), (10, .int (sCnt (f j) 6)), (9, .int (sDay (N j))), (8, .int (N j 1)), (7, .int (N j 0)), (0, .ref (Ad 1)), (1, .ref (Ad 5)), (2, .ref (Ad 6)), (3, .ref (Ad 8)), (4, .int (nI (psum p9 m9 6))), (6, .int (nI j))]) hx hb dL_areNames_347 hl (by decide) rfl (fun ls hl => ?_)
                                                              refine lv_iinc (v := nI (j + 1)) (lv' := [(6, .int (nI (j + 1))), (5, .int 1), (11, .int 1), (10, .int (sCnt (f j) 6)), (9, .int (sDay (N j))), (8, .int (N j 1)), (7, .int (N j 0)), (0, .ref (Ad 1)), (1, .ref (Ad 5)), (2, .ref (Ad 6)), (3, .ref (Ad 8)), (4, .int (nI (psum p9 m9 6)))]) hx hb dL_areNames_349 hl (k := 11) rfl (by first | rfl | exact (nI_add j 1)) (by decide) rfl (fun ls hl => ?_)
                                                              refine lv_goto (tgt := 155) hx hb dL_areNames_352 (by decide) ?_
                                                              exact ih155 (j + 1) _ _ _ (by omega) (by omega) hP hD hS (lv_sub hl [7, 8, 9, 10, 11, 1, 0] rfl)
                                                          · skip
                                                            refine lv_iload hx hb dL_areNames_325 (lv_at hl 2 rfl) ?_
                                                            refine lv_iconst (v := (-1)) hx hb dL_areNames_327 (by decide) ?_
                                                            refine lv_icmp_ne (tgt := 346) hx hb dL_areNames_328 (by decide) (fun c328 => ?_) (fun c328 => ?_)
                                                            · exact absurd (NI.day5 (Or.inr c322)) c328
                                                            · skip
                                                              refine lv_goto (tgt := 342) hx hb dL_areNames_331 (by decide) ?_
                                                              refine lv_iconst (v := 1) hx hb dL_areNames_342 (by decide) ?_
                                                              refine lv_goto (tgt := 347) hx hb dL_areNames_343 (by decide) ?_
                                                              refine lv_istore (lv' := [(5, .int 1), (11, .int 1), (10, .int (sCnt (f j) 6)), (9, .int (sDay (N j))), (8, .int (N j 1)), (7, .int (N j 0)), (0, .ref (Ad 1)), (1, .ref (Ad 5)), (2, .ref (Ad 6)), (3, .ref (Ad 8)), (4, .int (nI (psum p9 m9 6))), (6, .int (nI j))]) hx hb dL_areNames_347 hl (by decide) rfl (fun ls hl => ?_)
                                                              refine lv_iinc (v := nI (j + 1)) (lv' := [(6, .int (nI (j + 1))), (5, .int 1), (11, .int 1), (10, .int (sCnt (f j) 6)), (9, .int (sDay (N j))), (8, .int (N j 1)), (7, .int (N j 0)), (0, .ref (Ad 1)), (1, .ref (Ad 5)), (2, .ref (Ad 6)), (3, .ref (Ad 8)), (4, .int (nI (psum p9 m9 6)))]) hx hb dL_areNames_349 hl (k := 11) rfl (by first | rfl | exact (nI_add j 1)) (by decide) rfl (fun ls hl => ?_)
                                                              refine lv_goto (tgt := 155) hx hb dL_areNames_352 (by decide) ?_
                                                              exact ih155 (j + 1) _ _ _ (by omega) (by omega) hP hD hS (lv_sub hl [7, 8, 9, 10, 11, 1, 0] rfl)
                                                  · exact absurd c296 (n4.mp c285)
                                                · skip
                                                  refine lv_iconst (v := 1) hx hb dL_areNames_288 (by decide) ?_
                                                  refine lv_goto (tgt := 293) hx hb dL_areNames_289 (by decide) ?_
                                                  refine lv_iload hx hb dL_areNames_293 (lv_at hl 4 rfl) ?_
                                                  refine lv_iconst (v := 1) hx hb dL_areNames_295 (by decide) ?_
                                                  refine lv_icmp_ne (tgt := 303) hx hb dL_areNames_296 (by decide) (fun c296 => ?_) (fun c296 => ?_)
                                                  · exact absurd (n4.mpr c296) c285
                                                  · skip
                                                    refine lv_iconst (v := 1) hx hb dL_areNames_299 (by decide) ?_
                                                    refine lv_goto (tgt := 304) hx hb dL_areNames_300 (by decide) ?_
                                                    refine lv_icmp_ne (tgt := 346) hx hb dL_areNames_304 (by decide) (fun c304 => ?_) (fun c304 => ?_)
                                                    · exact absurd c304 (by decide)
                                                    · skip
                                                      refine lv_iload hx hb dL_areNames_307 (lv_at hl 1 rfl) ?_
                                                      refine lv_bipush (v := 7) hx hb dL_areNames_309 (by decide) ?_
                                                      refine lv_icmp_ge (tgt := 346) hx hb dL_areNames_311 (by decide) (fun c311 => ?_) (fun c311 => ?_)
                                                      · exact absurd c311 (cnt7 _)
                                                      · skip
                                                        refine lv_iload hx hb dL_areNames_314 (lv_at hl 4 rfl) ?_
                                                        refine lv_if_eq (tgt := 325) hx hb dL_areNames_316 (by decide) (fun c316 => ?_) (fun c316 => ?_)
                                                        · exact absurd (c296.symm.trans c316) (by decide)
                                                        · skip
                                                          refine lv_iload hx hb dL_areNames_319 (lv_at hl 4 rfl) ?_
                                                          refine lv_iconst (v := 5) hx hb dL_areNames_321 (by decide) ?_
                                                          refine lv_icmp_ne (tgt := 334) hx hb dL_areNames_322 (by decide) (fun c322 => ?_) (fun c322 => ?_)
                                                          · skip
                                                            refine lv_iload hx hb dL_areNames_334 (lv_at hl 2 rfl) ?_
                                                            refine lv_aload_n hx hb dL_areNames_336 rfl (lv_at hl 8 rfl) ?_
                                                            refine lv_iconst (v := 0) hx hb dL_areNames_337 (by decide) ?_
                                                            refine giald (j := 0) hx hb hK hP 3 0 rfl rfl (show (0 : Int32) = nI 0 from rfl) (by omega) (by decide) dL_areNames_338 ?_
                                                            refine lv_icmp_le (tgt := 346) hx hb dL_areNames_339 (by decide) (fun c339 => ?_) (fun c339 => ?_)
                                                            · exact absurd (by rw [← i2]; exact c339) (n1.day9 (by omega) c316 c322)
                                                            · skip
                                                              refine lv_iconst (v := 1) hx hb dL_areNames_342 (by decide) ?_
                                                              refine lv_goto (tgt := 347) hx hb dL_areNames_343 (by decide) ?_
                                                              refine lv_istore (lv' := [(5, .int 1), (11, .int 1), (10, .int (sCnt (f j) 6)), (9, .int (sDay (N j))), (8, .int (N j 1)), (7, .int (N j 0)), (0, .ref (Ad 1)), (1, .ref (Ad 5)), (2, .ref (Ad 6)), (3, .ref (Ad 8)), (4, .int (nI (psum p9 m9 6))), (6, .int (nI j))]) hx hb dL_areNames_347 hl (by decide) rfl (fun ls hl => ?_)
                                                              refine lv_iinc (v := nI (j + 1)) (lv' := [(6, .int (nI (j + 1))), (5, .int 1), (11, .int 1), (10, .int (sCnt (f j) 6)), (9, .int (sDay (N j))), (8, .int (N j 1)), (7, .int (N j 0)), (0, .ref (Ad 1)), (1, .ref (Ad 5)), (2, .ref (Ad 6)), (3, .ref (Ad 8)), (4, .int (nI (psum p9 m9 6)))]) hx hb dL_areNames_349 hl (k := 11) rfl (by first | rfl | exact (nI_add j 1)) (by decide) rfl (fun ls hl => ?_)
                                                              refine lv_goto (tgt := 155) hx hb dL_areNames_352 (by decide) ?_
                                                              exact ih155 (j + 1) _ _ _ (by omega) (by omega) hP hD hS (lv_sub hl [7, 8, 9, 10, 11, 1, 0] rfl)
                                                          · exact absurd (c296.symm.trans c322) (by decide)
                                  · skip
                                    refine lv_aload_n hx hb dL_areNames_211 rfl (lv_at hl 6 rfl) ?_
                                    refine lv_bipush (v := 32) hx hb dL_areNames_212 (by decide) ?_
                                    refine lv_iload hx hb dL_areNames_214 (lv_at hl 10 rfl) ?_
                                    refine lv_iadd hx hb dL_areNames_216 ?_
                                    refine gtop (y := nI (32 + j)) (nI_add 32 j) ?_
                                    refine giald (j := (32 + j)) hx hb hK hP 1 0 rfl rfl (show (nI (32 + j) : Int32) = nI (32 + j) from rfl) (by omega) (by decide) dL_areNames_217 ?_
                                    refine lv_if_ne (tgt := 225) hx hb dL_areNames_218 (by decide) (fun c218 => ?_) (fun c218 => ?_)
                                    · skip
                                      refine lv_iconst (v := 0) hx hb dL_areNames_225 (by decide) ?_
                                      refine lv_istore (lv' := [(11, .int 0), (10, .int (sCnt (f j) 6)), (9, .int (sDay (N j))), (8, .int (N j 1)), (7, .int (N j 0)), (0, .ref (Ad 1)), (1, .ref (Ad 5)), (2, .ref (Ad 6)), (3, .ref (Ad 8)), (4, .int (nI (psum p9 m9 6))), (5, .int 1), (6, .int (nI j))]) hx hb dL_areNames_226 hl (by decide) rfl (fun ls hl => ?_)
                                      refine lv_iload hx hb dL_areNames_228 (lv_at hl 4 rfl) ?_
                                      refine lv_aload_n hx hb dL_areNames_230 rfl (lv_at hl 6 rfl) ?_
                                      refine lv_iload hx hb dL_areNames_231 (lv_at hl 11 rfl) ?_
                                      refine giald (j := j) hx hb hK hP 0 0 rfl rfl (show (nI j : Int32) = nI j from rfl) (by omega) (by decide) dL_areNames_233 ?_
                                      refine lv_icmp_ne (tgt := 346) hx hb dL_areNames_234 (by decide) (fun c234 => ?_) (fun c234 => ?_)
                                      · exact absurd n2.1.symm c234
                                      · skip
                                        refine lv_iload hx hb dL_areNames_237 (lv_at hl 3 rfl) ?_
                                        refine lv_aload_n hx hb dL_areNames_239 rfl (lv_at hl 6 rfl) ?_
                                        refine lv_bipush (v := 16) hx hb dL_areNames_240 (by decide) ?_
                                        refine lv_iload hx hb dL_areNames_242 (lv_at hl 11 rfl) ?_
                                        refine lv_iadd hx hb dL_areNames_244 ?_
                                        refine gtop (y := nI (16 + j)) (nI_add 16 j) ?_
                                        refine giald (j := (16 + j)) hx hb hK hP 0 0 rfl rfl (show (nI (16 + j) : Int32) = nI (16 + j) from rfl) (by omega) (by decide) dL_areNames_245 ?_
                                        refine lv_icmp_ne (tgt := 346) hx hb dL_areNames_246 (by decide) (fun c246 => ?_) (fun c246 => ?_)
                                        · exact absurd n2.2.1.symm c246
                                        · skip
                                          refine lv_iload hx hb dL_areNames_249 (lv_at hl 2 rfl) ?_
                                          refine lv_aload_n hx hb dL_areNames_251 rfl (lv_at hl 6 rfl) ?_
                                          refine lv_bipush (v := 32) hx hb dL_areNames_252 (by decide) ?_
                                          refine lv_iload hx hb dL_areNames_254 (lv_at hl 11 rfl) ?_
                                          refine lv_iadd hx hb dL_areNames_256 ?_
                                          refine gtop (y := nI (32 + j)) (nI_add 32 j) ?_
                                          refine giald (j := (32 + j)) hx hb hK hP 0 0 rfl rfl (show (nI (32 + j) : Int32) = nI (32 + j) from rfl) (by omega) (by decide) dL_areNames_257 ?_
                                          refine lv_icmp_ne (tgt := 346) hx hb dL_areNames_258 (by decide) (fun c258 => ?_) (fun c258 => ?_)
                                          · exact absurd n2.2.2.1.symm c258
                                          · skip
                                            refine lv_iload hx hb dL_areNames_261 (lv_at hl 3 rfl) ?_
                                            refine lv_if_lt (tgt := 270) hx hb dL_areNames_263 (by decide) (fun c263 => ?_) (fun c263 => ?_)
                                            · skip
                                              refine lv_iconst (v := 0) hx hb dL_areNames_270 (by decide) ?_
                                              refine lv_iload hx hb dL_areNames_271 (lv_at hl 0 rfl) ?_
                                              refine lv_icmp_ne (tgt := 346) hx hb dL_areNames_273 (by decide) (fun c273 => ?_) (fun c273 => ?_)
                                              · exact absurd c273 (by decide)
                                              · skip
                                                refine lv_iload hx hb dL_areNames_276 (lv_at hl 3 rfl) ?_
                                                refine lv_bipush (v := 6) hx hb dL_areNames_278 (by decide) ?_
                                                refine lv_icmp_ge (tgt := 346) hx hb dL_areNames_280 (by decide) (fun c280 => ?_) (fun c280 => ?_)
                                                · exact absurd c280 n1.own6
                                                · skip
                                                  refine lv_iload hx hb dL_areNames_283 (lv_at hl 1 rfl) ?_
                                                  refine lv_if_le (tgt := 292) hx hb dL_areNames_285 (by decide) (fun c285 => ?_) (fun c285 => ?_)
                                                  · skip
                                                    refine lv_iconst (v := 0) hx hb dL_areNames_292 (by decide) ?_
                                                    refine lv_iload hx hb dL_areNames_293 (lv_at hl 4 rfl) ?_
                                                    refine lv_iconst (v := 1) hx hb dL_areNames_295 (by decide) ?_
                                                    refine lv_icmp_ne (tgt := 303) hx hb dL_areNames_296 (by decide) (fun c296 => ?_) (fun c296 => ?_)
                                                    · skip
                                                      refine lv_iconst (v := 0) hx hb dL_areNames_303 (by decide) ?_
                                                      refine lv_icmp_ne (tgt := 346) hx hb dL_areNames_304 (by decide) (fun c304 => ?_) (fun c304 => ?_)
                                                      · exact absurd c304 (by decide)
                                                      · skip
                                                        refine lv_iload hx hb dL_areNames_307 (lv_at hl 1 rfl) ?_
                                                        refine lv_bipush (v := 7) hx hb dL_areNames_309 (by decide) ?_
                                                        refine lv_icmp_ge (tgt := 346) hx hb dL_areNames_311 (by decide) (fun c311 => ?_) (fun c311 => ?_)
                                                        · exact absurd c311 (cnt7 _)
                                                        · skip
                                                          refine lv_iload hx hb dL_areNames_314 (lv_at hl 4 rfl) ?_
                                                          refine lv_if_eq (tgt := 325) hx hb dL_areNames_316 (by decide) (fun c316 => ?_) (fun c316 => ?_)
                                                          · skip
                                                            refine lv_iload hx hb dL_areNames_325 (lv_at hl 2 rfl) ?_
                                                            refine lv_iconst (v := (-1)) hx hb dL_areNames_327 (by decide) ?_
                                                            refine lv_icmp_ne (tgt := 346) hx hb dL_areNames_328 (by decide) (fun c328 => ?_) (fun c328 => ?_)
                                                            · exact absurd (NI.day5 (Or.inl c316)) c328
                                                            · skip
                                                              refine lv_goto (tgt := 342) hx hb dL_areNames_331 (by decide) ?_
                                                              refine lv_iconst (v := 1) hx hb dL_areNames_342 (by decide) ?_
                                                              refine lv_goto (tgt := 347) hx hb dL_areNames_343 (by decide) ?_
                                                              refine lv_istore (lv' := [(5, .int 1), (11, .int 0), (10, .int (sCnt (f j) 6)), (9, .int (sDay (N j))), (8, .int (N j 1)), (7, .int (N j 0)), (0, .ref (Ad 1)), (1, .ref (Ad 5)), (2, .ref (Ad 6)), (3, .ref (Ad 8)), (4, .int (nI (psum p9 m9 6))), (6, .int (nI j))]) hx hb dL_areNames_347 hl (by decide) rfl (fun ls hl => ?_)
                                                              refine lv_iinc (v := nI (j + 1)) (lv' := [(6, .int (nI (j + 1))), (5, .int 1), (11, .int 0), (10, .int (sCnt (f j) 6)), (9, .int (sDay (N j))), (8, .int (N j 1)), (7, .int (N j 0)), (0, .ref (Ad 1)), (1, .ref (Ad 5)), (2, .ref (Ad 6)), (3, .ref (Ad 8)), (4, .int (nI (psum p9 m9 6)))]) hx hb dL_areNames_349 hl (k := 11) rfl (by first | rfl | exact (nI_add j 1)) (by decide) rfl (fun ls hl => ?_)
                                                              refine lv_goto (tgt := 155) hx hb dL_areNames_352 (by decide) ?_
                                                              exact ih155 (j + 1) _ _ _ (by omega) (by omega) hP hD hS (lv_sub hl [7, 8, 9, 10, 11, 1, 0] rfl)
                                                          · skip
                                                            refine lv_iload hx hb dL_areNames_319 (lv_at hl 4 rfl) ?_
                                                            refine lv_iconst (v := 5) hx hb dL_areNames_321 (by decide) ?_
                                                            refine lv_icmp_ne (tgt := 334) hx hb dL_areNames_322 (by decide) (fun c322 => ?_) (fun c322 => ?_)
                                                            · skip
                                                              refine lv_iload hx hb dL_areNames_334 (lv_at hl 2 rfl) ?_
                                                              refine lv_aload_n hx hb dL_areNames_336 rfl (lv_at hl 8 rfl) ?_
                                                              refine lv_iconst (v := 0) hx hb dL_areNames_337 (by decide) ?_
                                                              refine giald (j := 0) hx hb hK hP 3 0 rfl rfl (show (0 : Int32) = nI 0 from rfl) (by omega) (by decide) dL_areNames_338 ?_
                                                              refine lv_icmp_le (tgt := 346) hx hb dL_areNames_339 (by decide) (fun c339 => ?_) (fun c339 => ?_)
                                                              · exact absurd (by rw [← i2]; exact c339) (n1.day9 (by omega) c316 c322)
                                                              · skip
                                                                refine lv_iconst (v := 1) hx hb dL_areNames_342 (by decide) ?_
                                                                refine lv_goto (tgt := 347) hx hb dL_areNames_343 (by decide) ?_
                                                                refine lv_istore (lv' := [(5, .int 1), (11, .int 0), (10, .int (sCnt (f j) 6)), (9, .int (sDay (N j))), (8, .int (N j 1)), (7, .int (N j 0)), (0, .ref (Ad 1)), (1, .ref (Ad 5)), (2, .ref (Ad 6)), (3, .ref (Ad 8)), (4, .int (nI (psum p9 m9 6))), (6, .int (nI j))]) hx hb dL_areNames_347 hl (by decide) rfl (fun ls hl => ?_)
                                                                refine lv_iinc (v := nI (j + 1)) (lv' := [(6, .int (nI (j + 1))), (5, .int 1), (11, .int 0), (10, .int (sCnt (f j) 6)), (9, .int (sDay (N j))), (8, .int (N j 1)), (7, .int (N j 0)), (0, .ref (Ad 1)), (1, .ref (Ad 5)), (2, .ref (Ad 6)), (3, .ref (Ad 8)), (4, .int (nI (psum p9 m9 6)))]) hx hb dL_areNames_349 hl (k := 11) rfl (by first | rfl | exact (nI_add j 1)) (by decide) rfl (fun ls hl => ?_)
                                                                refine lv_goto (tgt := 155) hx hb dL_areNames_352 (by decide) ?_
                                                                exact ih155 (j + 1) _ _ _ (by omega) (by omega) hP hD hS (lv_sub hl [7, 8, 9, 10, 11, 1, 0] rfl)
                                                            · skip
                                                              refine lv_iload hx hb dL_areNames_325 (lv_at hl 2 rfl) ?_
                                                              refine lv_iconst (v := (-1)) hx hb dL_areNames_327 (by decide) ?_
                                                              refine lv_icmp_ne (tgt := 346) hx hb dL_areNames_328 (by decide) (fun c328 => ?_) (fun c328 => ?_)
                                                              · exact absurd (NI.day5 (Or.inr c322)) c328
                                                              · skip
                                                                refine lv_goto (tgt := 342) hx hb dL_areNames_331 (by decide) ?_
                                                                refine lv_iconst (v := 1) hx hb dL_areNames_342 (by decide) ?_
                                                                refine lv_goto (tgt := 347) hx hb dL_areNames_343 (by decide) ?_
                                                                refine lv_istore (lv' := [(5, .int 1), (11, .int 0), (10, .int (sCnt (f j) 6)), (9, .int (sDay (N j))), (8, .int (N j 1)), (7, .int (N j 0)), (0, .ref (Ad 1)), (1, .ref (Ad 5)), (2, .ref (Ad 6)), (3, .ref (Ad 8)), (4, .int (nI (psum p9 m9 6))), (6, .int (nI j))]) hx hb dL_areNames_347 hl (by decide) rfl (fun ls hl => ?_)
                                                                refine lv_iinc (v := nI (j + 1)) (lv' := [(6, .int (nI (j + 1))), (5, .int 1), (11, .int 0), (10, .int (sCnt (f j) 6)), (9, .int (sDay (N j))), (8, .int (N j 1)), (7, .int (N j 0)), (0, .ref (Ad 1)), (1, .ref (Ad 5)), (2, .ref (Ad 6)), (3, .ref (Ad 8)), (4, .int (nI (psum p9 m9 6)))]) hx hb dL_areNames_349 hl (k := 11) rfl (by first | rfl | exact (nI_add j 1)) (by decide) rfl (fun ls hl => ?_)
                                                                refine lv_goto (tgt := 155) hx hb dL_areNames_352 (by decide) ?_
                                                                exact ih155 (j + 1) _ _ _ (by omega) (by omega) hP hD hS (lv_sub hl [7, 8, 9, 10, 11, 1, 0] rfl)
                                                    · exact absurd c296 (n4.mp c285)
                                                  · skip
                                                    refine lv_iconst (v := 1) hx hb dL_areNames_288 (by decide) ?_
                                                    refine lv_goto (tgt := 293) hx hb dL_areNames_289 (by decide) ?_
                                                    refine lv_iload hx hb dL_areNames_293 (lv_at hl 4 rfl) ?_
                                                    refine lv_iconst (v := 1) hx hb dL_areNames_295 (by decide) ?_
                                                    refine lv_icmp_ne (tgt := 303) hx hb dL_areNames_296 (by decide) (fun c296 => ?_) (fun c296 => ?_)
                                                    · exact absurd (n4.mpr c296) c285
                                                    · skip
                                                      refine lv_iconst (v := 1) hx hb dL_areNames_299 (by decide) ?_
                                                      refine lv_goto (tgt := 304) hx hb dL_areNames_300 (by decide) ?_
                                                      refine lv_icmp_ne (tgt := 346) hx hb dL_areNames_304 (by decide) (fun c304 => ?_) (fun c304 => ?_)
                                                      · exact absurd c304 (by decide)
                                                      · skip
                                                        refine lv_iload hx hb dL_areNames_307 (lv_at hl 1 rfl) ?_
                                                        refine lv_bipush (v := 7) hx hb dL_areNames_309 (by decide) ?_
                                                        refine lv_icmp_ge (tgt := 346) hx hb dL_areNames_311 (by decide) (fun c311 => ?_) (fun c311 => ?_)
                                                        · exact absurd c311 (cnt7 _)
                                                        · skip
                                                          refine lv_iload hx hb dL_areNames_314 (lv_at hl 4 rfl) ?_
                                                          refine lv_if_eq (tgt := 325) hx hb dL_areNames_316 (by decide) (fun c316 => ?_) (fun c316 => ?_)
                                                          · exact absurd (c296.symm.trans c316) (by decide)
                                                          · skip
                                                            refine lv_iload hx hb dL_areNames_319 (lv_at hl 4 rfl) ?_
                                                            refine lv_iconst (v := 5) hx hb dL_areNames_321 (by decide) ?_
                                                            refine lv_icmp_ne (tgt := 334) hx hb dL_areNames_322 (by decide) (fun c322 => ?_) (fun c322 => ?_)
                                                            · skip
                                                              refine lv_iload hx hb dL_areNames_334 (lv_at hl 2 rfl) ?_
                                                              refine lv_aload_n hx hb dL_areNames_336 rfl (lv_at hl 8 rfl) ?_
                                                              refine lv_iconst (v := 0) hx hb dL_areNames_337 (by decide) ?_
                                                              refine giald (j := 0) hx hb hK hP 3 0 rfl rfl (show (0 : Int32) = nI 0 from rfl) (by omega) (by decide) dL_areNames_338 ?_
                                                              refine lv_icmp_le (tgt := 346) hx hb dL_areNames_339 (by decide) (fun c339 => ?_) (fun c339 => ?_)
                                                              · exact absurd (by rw [← i2]; exact c339) (n1.day9 (by omega) c316 c322)
                                                              · skip
                                                                refine lv_iconst (v := 1) hx hb dL_areNames_342 (by decide) ?_
                                                                refine lv_goto (tgt := 347) hx hb dL_areNames_343 (by decide) ?_
                                                                refine lv_istore (lv' := [(5, .int 1), (11, .int 0), (10, .int (sCnt (f j) 6)), (9, .int (sDay (N j))), (8, .int (N j 1)), (7, .int (N j 0)), (0, .ref (Ad 1)), (1, .ref (Ad 5)), (2, .ref (Ad 6)), (3, .ref (Ad 8)), (4, .int (nI (psum p9 m9 6))), (6, .int (nI j))]) hx hb dL_areNames_347 hl (by decide) rfl (fun ls hl => ?_)
                                                                refine lv_iinc (v := nI (j + 1)) (lv' := [(6, .int (nI (j + 1))), (5, .int 1), (11, .int 0), (10, .int (sCnt (f j) 6)), (9, .int (sDay (N j))), (8, .int (N j 1)), (7, .int (N j 0)), (0, .ref (Ad 1)), (1, .ref (Ad 5)), (2, .ref (Ad 6)), (3, .ref (Ad 8)), (4, .int (nI (psum p9 m9 6)))]) hx hb dL_areNames_349 hl (k := 11) rfl (by first | rfl | exact (nI_add j 1)) (by decide) rfl (fun ls hl => ?_)
                                                                refine lv_goto (tgt := 155) hx hb dL_areNames_352 (by decide) ?_
                                                                exact ih155 (j + 1) _ _ _ (by omega) (by omega) hP hD hS (lv_sub hl [7, 8, 9, 10, 11, 1, 0] rfl)
                                                            · exact absurd (c296.symm.trans c322) (by decide)
                                            · exact absurd (n3.mpr (Or.inr ⟨c208, c218⟩)) c263
                                    · skip
                                      refine lv_iconst (v := 1) hx hb dL_areNames_221 (by decide) ?_
                                      refine lv_goto (tgt := 226) hx hb dL_areNames_222 (by decide) ?_
                                      refine lv_istore (lv' := [(11, .int 1), (10, .int (sCnt (f j) 6)), (9, .int (sDay (N j))), (8, .int (N j 1)), (7, .int (N j 0)), (0, .ref (Ad 1)), (1, .ref (Ad 5)), (2, .ref (Ad 6)), (3, .ref (Ad 8)), (4, .int (nI (psum p9 m9 6))), (5, .int 1), (6, .int (nI j))]) hx hb dL_areNames_226 hl (by decide) rfl (fun ls hl => ?_)
                                      refine lv_iload hx hb dL_areNames_228 (lv_at hl 4 rfl) ?_
                                      refine lv_aload_n hx hb dL_areNames_230 rfl (lv_at hl 6 rfl) ?_
                                      refine lv_iload hx hb dL_areNames_231 (lv_at hl 11 rfl) ?_
                                      refine giald (j := j) hx hb hK hP 0 0 rfl rfl (show (nI j : Int32) = nI j from rfl) (by omega) (by decide) dL_areNames_233 ?_
                                      refine lv_icmp_ne (tgt := 346) hx hb dL_areNames_234 (by decide) (fun c234 => ?_) (fun c234 => ?_)
                                      · exact absurd n2.1.symm c234
                                      · skip
                                        refine lv_iload hx hb dL_areNames_237 (lv_at hl 3 rfl) ?_
                                        refine lv_aload_n hx hb dL_areNames_239 rfl (lv_at hl 6 rfl) ?_
                                        refine lv_bipush (v := 16) hx hb dL_areNames_240 (by decide) ?_
                                        refine lv_iload hx hb dL_areNames_242 (lv_at hl 11 rfl) ?_
                                        refine lv_iadd hx hb dL_areNames_244 ?_
                                        refine gtop (y := nI (16 + j)) (nI_add 16 j) ?_
                                        refine giald (j := (16 + j)) hx hb hK hP 0 0 rfl rfl (show (nI (16 + j) : Int32) = nI (16 + j) from rfl) (by omega) (by decide) dL_areNames_245 ?_
                                        refine lv_icmp_ne (tgt := 346) hx hb dL_areNames_246 (by decide) (fun c246 => ?_) (fun c246 => ?_)
                                        · exact absurd n2.2.1.symm c246
                                        · skip
                                          refine lv_iload hx hb dL_areNames_249 (lv_at hl 2 rfl) ?_
                                          refine lv_aload_n hx hb dL_areNames_251 rfl (lv_at hl 6 rfl) ?_
                                          refine lv_bipush (v := 32) hx hb dL_areNames_252 (by decide) ?_
                                          refine lv_iload hx hb dL_areNames_254 (lv_at hl 11 rfl) ?_
                                          refine lv_iadd hx hb dL_areNames_256 ?_
                                          refine gtop (y := nI (32 + j)) (nI_add 32 j) ?_
                                          refine giald (j := (32 + j)) hx hb hK hP 0 0 rfl rfl (show (nI (32 + j) : Int32) = nI (32 + j) from rfl) (by omega) (by decide) dL_areNames_257 ?_
                                          refine lv_icmp_ne (tgt := 346) hx hb dL_areNames_258 (by decide) (fun c258 => ?_) (fun c258 => ?_)
                                          · exact absurd n2.2.2.1.symm c258
                                          · skip
                                            refine lv_iload hx hb dL_areNames_261 (lv_at hl 3 rfl) ?_
                                            refine lv_if_lt (tgt := 270) hx hb dL_areNames_263 (by decide) (fun c263 => ?_) (fun c263 => ?_)
                                            · exact absurd (n3.mp c263) (fun h9 => h9.elim c202 (fun h9 => h9.2 c218))
                                            · skip
                                              refine lv_iconst (v := 1) hx hb dL_areNames_266 (by decide) ?_
                                              refine lv_goto (tgt := 271) hx hb dL_areNames_267 (by decide) ?_
                                              refine lv_iload hx hb dL_areNames_271 (lv_at hl 0 rfl) ?_
                                              refine lv_icmp_ne (tgt := 346) hx hb dL_areNames_273 (by decide) (fun c273 => ?_) (fun c273 => ?_)
                                              · exact absurd c273 (by decide)
                                              · skip
                                                refine lv_iload hx hb dL_areNames_276 (lv_at hl 3 rfl) ?_
                                                refine lv_bipush (v := 6) hx hb dL_areNames_278 (by decide) ?_
                                                refine lv_icmp_ge (tgt := 346) hx hb dL_areNames_280 (by decide) (fun c280 => ?_) (fun c280 => ?_)
                                                · exact absurd c280 n1.own6
                                                · skip
                                                  refine lv_iload hx hb dL_areNames_283 (lv_at hl 1 rfl) ?_
                                                  refine lv_if_le (tgt := 292) hx hb dL_areNames_285 (by decide) (fun c285 => ?_) (fun c285 => ?_)
                                                  · skip
                                                    refine lv_iconst (v := 0) hx hb dL_areNames_292 (by decide) ?_
                                                    refine lv_iload hx hb dL_areNames_293 (lv_at hl 4 rfl) ?_
                                                    refine lv_iconst (v := 1) hx hb dL_areNames_295 (by decide) ?_
                                                    refine lv_icmp_ne (tgt := 303) hx hb dL_areNames_296 (by decide) (fun c296 => ?_) (fun c296 => ?_)
                                                    · skip
                                                      refine lv_iconst (v := 0) hx hb dL_areNames_303 (by decide) ?_
                                                      refine lv_icmp_ne (tgt := 346) hx hb dL_areNames_304 (by decide) (fun c304 => ?_) (fun c304 => ?_)
                                                      · exact absurd c304 (by decide)
                                                      · skip
                                                        refine lv_iload hx hb dL_areNames_307 (lv_at hl 1 rfl) ?_
                                                        refine lv_bipush (v := 7) hx hb dL_areNames_309 (by decide) ?_
                                                        refine lv_icmp_ge (tgt := 346) hx hb dL_areNames_311 (by decide) (fun c311 => ?_) (fun c311 => ?_)
                                                        · exact absurd c311 (cnt7 _)
                                                        · skip
                                                          refine lv_iload hx hb dL_areNames_314 (lv_at hl 4 rfl) ?_
                                                          refine lv_if_eq (tgt := 325) hx hb dL_areNames_316 (by decide) (fun c316 => ?_) (fun c316 => ?_)
                                                          · skip
                                                            refine lv_iload hx hb dL_areNames_325 (lv_at hl 2 rfl) ?_
                                                            refine lv_iconst (v := (-1)) hx hb dL_areNames_327 (by decide) ?_
                                                            refine lv_icmp_ne (tgt := 346) hx hb dL_areNames_328 (by decide) (fun c328 => ?_) (fun c328 => ?_)
                                                            · exact absurd (NI.day5 (Or.inl c316)) c328
                                                            · skip
                                                              refine lv_goto (tgt := 342) hx hb dL_areNames_331 (by decide) ?_
                                                              refine lv_iconst (v := 1) hx hb dL_areNames_342 (by decide) ?_
                                                              refine lv_goto (tgt := 347) hx hb dL_areNames_343 (by decide) ?_
                                                              refine lv_istore (lv' := [(5, .int 1), (11, .int 1), (10, .int (sCnt (f j) 6)), (9, .int (sDay (N j))), (8, .int (N j 1)), (7, .int (N j 0)), (0, .ref (Ad 1)), (1, .ref (Ad 5)), (2, .ref (Ad 6)), (3, .ref (Ad 8)), (4, .int (nI (psum p9 m9 6))), (6, .int (nI j))]) hx hb dL_areNames_347 hl (by decide) rfl (fun ls hl => ?_)
                                                              refine lv_iinc (v := nI (j + 1)) (lv' := [(6, .int (nI (j + 1))), (5, .int 1), (11, .int 1), (10, .int (sCnt (f j) 6)), (9, .int (sDay (N j))), (8, .int (N j 1)), (7, .int (N j 0)), (0, .ref (Ad 1)), (1, .ref (Ad 5)), (2, .ref (Ad 6)), (3, .ref (Ad 8)), (4, .int (nI (psum p9 m9 6)))]) hx hb dL_areNames_349 hl (k := 11) rfl (by first | rfl | exact (nI_add j 1)) (by decide) rfl (fun ls hl => ?_)
                                                              refine lv_goto (tgt := 155) hx hb dL_areNames_352 (by decide) ?_
                                                              exact ih155 (j + 1) _ _ _ (by omega) (by omega) hP hD hS (lv_sub hl [7, 8, 9, 10, 11, 1, 0] rfl)
                                                          · skip
                                                            refine lv_iload hx hb dL_areNames_319 (lv_at hl 4 rfl) ?_
                                                            refine lv_iconst (v := 5) hx hb dL_areNames_321 (by decide) ?_
                                                            refine lv_icmp_ne (tgt := 334) hx hb dL_areNames_322 (by decide) (fun c322 => ?_) (fun c322 => ?_)
                                                            · skip
                                                              refine lv_iload hx hb dL_areNames_334 (lv_at hl 2 rfl) ?_
                                                              refine lv_aload_n hx hb dL_areNames_336 rfl (lv_at hl 8 rfl) ?_
                                                              refine lv_iconst (v := 0) hx hb dL_areNames_337 (by decide) ?_
                                                              refine giald (j := 0) hx hb hK hP 3 0 rfl rfl (show (0 : Int32) = nI 0 from rfl) (by omega) (by decide) dL_areNames_338 ?_
                                                              refine lv_icmp_le (tgt := 346) hx hb dL_areNames_339 (by decide) (fun c339 => ?_) (fun c339 => ?_)
                                                              · exact absurd (by rw [← i2]; exact c339) (n1.day9 (by omega) c316 c322)
                                                              · skip
                                                                refine lv_iconst (v := 1) hx hb dL_areNames_342 (by decide) ?_
                                                                refine lv_goto (tgt := 347) hx hb dL_areNames_343 (by decide) ?_
                                                                refine lv_istore (lv' := [(5, .int 1), (11, .int 1), (10, .int (sCnt (f j) 6)), (9, .int (sDay (N j))), (8, .int (N j 1)), (7, .int (N j 0)), (0, .ref (Ad 1)), (1, .ref (Ad 5)), (2, .ref (Ad 6)), (3, .ref (Ad 8)), (4, .int (nI (psum p9 m9 6))), (6, .int (nI j))]) hx hb dL_areNames_347 hl (by decide) rfl (fun ls hl => ?_)
                                                                refine lv_iinc (v := nI (j + 1)) (lv' := [(6, .int (nI (j + 1))), (5, .int 1), (11, .int 1), (10, .int (sCnt (f j) 6)), (9, .int (sDay (N j))), (8, .int (N j 1)), (7, .int (N j 0)), (0, .ref (Ad 1)), (1, .ref (Ad 5)), (2, .ref (Ad 6)), (3, .ref (Ad 8)), (4, .int (nI (psum p9 m9 6)))]) hx hb dL_areNames_349 hl (k := 11) rfl (by first | rfl | exact (nI_add j 1)) (by decide) rfl (fun ls hl => ?_)
                                                                refine lv_goto (tgt := 155) hx hb dL_areNames_352 (by decide) ?_
                                                                exact ih155 (j + 1) _ _ _ (by omega) (by omega) hP hD hS (lv_sub hl [7, 8, 9, 10, 11, 1, 0] rfl)
                                                            · skip
                                                              refine lv_iload hx hb dL_areNames_325 (lv_at hl 2 rfl) ?_
                                                              refine lv_iconst (v := (-1)) hx hb dL_areNames_327 (by decide) ?_
                                                              refine lv_icmp_ne (tgt := 346) hx hb dL_areNames_328 (by decide) (fun c328 => ?_) (fun c328 => ?_)
                                                              · exact absurd (NI.day5 (Or.inr c322)) c328
                                                              · skip
                                                                refine lv_goto (tgt := 342) hx hb dL_areNames_331 (by decide) ?_
                                                                refine lv_iconst (v := 1) hx hb dL_areNames_342 (by decide) ?_
                                                                refine lv_goto (tgt := 347) hx hb dL_areNames_343 (by decide) ?_
                                                                refine lv_istore (lv' := [(5, .int 1), (11, .int 1), (10, .int (sCnt (f j) 6)), (9, .int (sDay (N j))), (8, .int (N j 1)), (7, .int (N j 0)), (0, .ref (Ad 1)), (1, .ref (Ad 5)), (2, .ref (Ad 6)), (3, .ref (Ad 8)), (4, .int (nI (psum p9 m9 6))), (6, .int (nI j))]) hx hb dL_areNames_347 hl (by decide) rfl (fun ls hl => ?_)
                                                                refine lv_iinc (v := nI (j + 1)) (lv' := [(6, .int (nI (j + 1))), (5, .int 1), (11, .int 1), (10, .int (sCnt (f j) 6)), (9, .int (sDay (N j))), (8, .int (N j 1)), (7, .int (N j 0)), (0, .ref (Ad 1)), (1, .ref (Ad 5)), (2, .ref (Ad 6)), (3, .ref (Ad 8)), (4, .int (nI (psum p9 m9 6)))]) hx hb dL_areNames_349 hl (k := 11) rfl (by first | rfl | exact (nI_add j 1)) (by decide) rfl (fun ls hl => ?_)
                                                                refine lv_goto (tgt := 155) hx hb dL_areNames_352 (by decide) ?_
                                                                exact ih155 (j + 1) _ _ _ (by omega) (by omega) hP hD hS (lv_sub hl [7, 8, 9, 10, 11, 1, 0] rfl)
                                                    · exact absurd c296 (n4.mp c285)
                                                  · skip
                                                    refine lv_iconst (v := 1) hx hb dL_areNames_288 (by decide) ?_
                                                    refine lv_goto (tgt := 293) hx hb dL_areNames_289 (by decide) ?_
                                                    refine lv_iload hx hb dL_areNames_293 (lv_at hl 4 rfl) ?_
                                                    refine lv_iconst (v := 1) hx hb dL_areNames_295 (by decide) ?_
                                                    refine lv_icmp_ne (tgt := 303) hx hb dL_areNames_296 (by decide) (fun c296 => ?_) (fun c296 => ?_)
                                                    · exact absurd (n4.mpr c296) c285
                                                    · skip
                                                      refine lv_iconst (v := 1) hx hb dL_areNames_299 (by decide) ?_
                                                      refine lv_goto (tgt := 304) hx hb dL_areNames_300 (by decide) ?_
                                                      refine lv_icmp_ne (tgt := 346) hx hb dL_areNames_304 (by decide) (fun c304 => ?_) (fun c304 => ?_)
                                                      · exact absurd c304 (by decide)
                                                      · skip
                                                        refine lv_iload hx hb dL_areNames_307 (lv_at hl 1 rfl) ?_
                                                        refine lv_bipush (v := 7) hx hb dL_areNames_309 (by decide) ?_
                                                        refine lv_icmp_ge (tgt := 346) hx hb dL_areNames_311 (by decide) (fun c311 => ?_) (fun c311 => ?_)
                                                        · exact absurd c311 (cnt7 _)
                                                        · skip
                                                          refine lv_iload hx hb dL_areNames_314 (lv_at hl 4 rfl) ?_
                                                          refine lv_if_eq (tgt := 325) hx hb dL_areNames_316 (by decide) (fun c316 => ?_) (fun c316 => ?_)
                                                          · exact absurd (c296.symm.trans c316) (by decide)
                                                          · skip
                                                            refine lv_iload hx hb dL_areNames_319 (lv_at hl 4 rfl) ?_
                                                            refine lv_iconst (v := 5) hx hb dL_areNames_321 (by decide) ?_
                                                            refine lv_icmp_ne (tgt := 334) hx hb dL_areNames_322 (by decide) (fun c322 => ?_) (fun c322 => ?_)
                                                            · skip
                                                              refine lv_iload hx hb dL_areNames_334 (lv_at hl 2 rfl) ?_
                                                              refine lv_aload_n hx hb dL_areNames_336 rfl (lv_at hl 8 rfl) ?_
                                                              refine lv_iconst (v := 0) hx hb dL_areNames_337 (by decide) ?_
                                                              refine giald (j := 0) hx hb hK hP 3 0 rfl rfl (show (0 : Int32) = nI 0 from rfl) (by omega) (by decide) dL_areNames_338 ?_
                                                              refine lv_icmp_le (tgt := 346) hx hb dL_areNames_339 (by decide) (fun c339 => ?_) (fun c339 => ?_)
                                                              · exact absurd (by rw [← i2]; exact c339) (n1.day9 (by omega) c316 c322)
                                                              · skip
                                                                refine lv_iconst (v := 1) hx hb dL_areNames_342 (by decide) ?_
                                                                refine lv_goto (tgt := 347) hx hb dL_areNames_343 (by decide) ?_
                                                                refine lv_istore (lv' := [(5, .int 1), (11, .int 1), (10, .int (sCnt (f j) 6)), (9, .int (sDay (N j))), (8, .int (N j 1)), (7, .int (N j 0)), (0, .ref (Ad 1)), (1, .ref (Ad 5)), (2, .ref (Ad 6)), (3, .ref (Ad 8)), (4, .int (nI (psum p9 m9 6))), (6, .int (nI j))]) hx hb dL_areNames_347 hl (by decide) rfl (fun ls hl => ?_)
                                                                refine lv_iinc (v := nI (j + 1)) (lv' := [(6, .int (nI (j + 1))), (5, .int 1), (11, .int 1), (10, .int (sCnt (f j) 6)), (9, .int (sDay (N j))), (8, .int (N j 1)), (7, .int (N j 0)), (0, .ref (Ad 1)), (1, .ref (Ad 5)), (2, .ref (Ad 6)), (3, .ref (Ad 8)), (4, .int (nI (psum p9 m9 6)))]) hx hb dL_areNames_349 hl (k := 11) rfl (by first | rfl | exact (nI_add j 1)) (by decide) rfl (fun ls hl => ?_)
                                                                refine lv_goto (tgt := 155) hx hb dL_areNames_352 (by decide) ?_
                                                                exact ih155 (j + 1) _ _ _ (by omega) (by omega) hP hD hS (lv_sub hl [7, 8, 9, 10, 11, 1, 0] rfl)
                                                            · exact absurd (c296.symm.trans c322) (by decide)
                        exact J155 17 0 _ _ _ (by omega) (by omega) hP hD hS (lv_sub hl [1, 2, 3, 4, 5, 6, 0] rfl)
                      · skip
                        have hlt : i < 6 := by
                          rcases Nat.lt_or_ge i 6 with q | q
                          · exact q
                          · exact absurd (show (6 : Int32) ≤ nI i from nI_le (a := 6) q (by omega)) c111
                        refine lv_iload hx hb dL_areNames_114 (lv_at hl 5 rfl) ?_
                        refine lv_if_eq (tgt := 152) hx hb dL_areNames_116 (by decide) (fun c116 => ?_) (fun c116 => ?_)
                        · exact absurd c116 (by decide)
                        · skip
                          refine lv_iload hx hb dL_areNames_119 (lv_at hl 4 rfl) ?_
                          refine lv_aload_n hx hb dL_areNames_121 rfl (lv_at hl 0 rfl) ?_
                          refine lv_iload hx hb dL_areNames_122 (lv_at hl 6 rfl) ?_
                          refine gciT (X := wX4 T Ad ta ca fa ga) (va_runV (As := [.int (nI i)]) (rest := [.int (nI (psum p9 m9 i))]) ⟨hx, hb, hml, hown, hts⟩ (cX2_funds_c l hl0 G T Ad AF D mny N f g rk rf rg rh i _ (by omega)) (cwV 1 hts gL_areNames_X2_funds rfl rfl rfl (by decide +kernel) ⟨Nat.le_of_ble_eq_true rfl, Nat.le_of_ble_eq_true rfl⟩) ⟨gblind, va_recv hK hP (ci := 2) (q0 := 4) rfl rfl, gpreT (X := wX4 T Ad ta ca fa ga) hE hK hP hD hS hA⟩ rfl rfl hl.1 rfl (lv_room (Nat.le_of_ble_eq_true rfl)) dL_areNames_124 ⟨Nat.le_of_ble_eq_true rfl, Nat.le_of_ble_eq_true rfl⟩) hP hD hS hA wC_fst (fun r9 H locs hw hP hD hS => ?_)
                          have hP : va_P G vwCl (wW T Ad AF ta ca fa ga D mny N f g rk rf rg rh) H := hP
                          have hD : va_D (va_A (wW T Ad AF ta ca fa ga D mny N f g rk rf rg rh) s.heap.size) (wW T Ad AF ta ca fa ga D mny N f g rk rf rg rh) := hD
                          subst hw
                          refine gtop (y := nI (m9 i)) (j2 i hlt) ?_
                          refine lv_iadd hx hb dL_areNames_127 ?_
                          refine gtop (y := nI ((psum p9 m9 i) + (m9 i))) (nI_add (psum p9 m9 i) (m9 i)) ?_
                          refine lv_istore (lv' := [(4, .int (nI ((psum p9 m9 i) + (m9 i)))), (0, .ref (Ad 1)), (1, .ref (Ad 5)), (2, .ref (Ad 6)), (3, .ref (Ad 8)), (5, .int 1), (6, .int (nI i))]) hx hb dL_areNames_128 hl (by decide) rfl (fun ls hl => ?_)
                          refine lv_aload_n hx hb dL_areNames_130 rfl (lv_at hl 1 rfl) ?_
                          refine lv_iload hx hb dL_areNames_131 (lv_at hl 6 rfl) ?_
                          refine gciT (X := wX4 T Ad ta ca fa ga) (va_runV (As := [.int (nI i)]) (rest := []) ⟨hx, hb, hml, hown, hts⟩ (cX2_funds_c l hl0 G T Ad AF D mny N f g rk rf rg rh i _ (by omega)) (cwV 1 hts gL_areNames_X2_funds rfl rfl rfl (by decide +kernel) ⟨Nat.le_of_ble_eq_true rfl, Nat.le_of_ble_eq_true rfl⟩) ⟨gblind, va_recv hK hP (ci := 2) (q0 := 4) rfl rfl, gpreT (X := wX4 T Ad ta ca fa ga) hE hK hP hD hS hA⟩ rfl rfl hl.1 rfl (lv_room (Nat.le_of_ble_eq_true rfl)) dL_areNames_133 ⟨Nat.le_of_ble_eq_true rfl, Nat.le_of_ble_eq_true rfl⟩) hP hD hS hA wC_fst (fun r9 H locs hw hP hD hS => ?_)
                          have hP : va_P G vwCl (wW T Ad AF ta ca fa ga D mny N f g rk rf rg rh) H := hP
                          have hD : va_D (va_A (wW T Ad AF ta ca fa ga D mny N f g rk rf rg rh) s.heap.size) (wW T Ad AF ta ca fa ga D mny N f g rk rf rg rh) := hD
                          subst hw
                          refine gtop (y := nI (m9 i)) (j2 i hlt) ?_
                          refine lv_if_lt (tgt := 143) hx hb dL_areNames_136 (by decide) (fun c136 => ?_) (fun c136 => ?_)
                          · exact absurd c136 (nI_pos (by have := hm9 i hlt; omega))
                          · skip
                            refine lv_iconst (v := 1) hx hb dL_areNames_139 (by decide) ?_
                            refine lv_goto (tgt := 144) hx hb dL_areNames_140 (by decide) ?_
                            refine lv_istore (lv' := [(5, .int 1), (4, .int (nI ((psum p9 m9 i) + (m9 i)))), (0, .ref (Ad 1)), (1, .ref (Ad 5)), (2, .ref (Ad 6)), (3, .ref (Ad 8)), (6, .int (nI i))]) hx hb dL_areNames_144 hl (by decide) rfl (fun ls hl => ?_)
                            refine lv_iinc (v := nI (i + 1)) (lv' := [(6, .int (nI (i + 1))), (5, .int 1), (4, .int (nI ((psum p9 m9 i) + (m9 i)))), (0, .ref (Ad 1)), (1, .ref (Ad 5)), (2, .ref (Ad 6)), (3, .ref (Ad 8))]) hx hb dL_areNames_146 hl (k := 6) rfl (by first | rfl | exact (nI_add i 1)) (by decide) rfl (fun ls hl => ?_)
                            refine lv_goto (tgt := 107) hx hb dL_areNames_149 (by decide) ?_
                            exact ih107 (i + 1) _ _ _ (by omega) (by omega) hP hD hS (lv_sub hl [3, 4, 5, 6, 2, 1, 0] rfl)
                  exact J107 7 0 _ _ _ (by omega) (by omega) hP hD hS (lv_sub hl [3, 4, 5, 6, 2, 1, 0] rfl)
