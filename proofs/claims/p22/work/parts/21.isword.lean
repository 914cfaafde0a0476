/-! THE LAW'S METHODS: isWord -/
theorem NI.own {d : Nat} {N f : Nat → Int32} (h : NI d N f) : N 1 = -1 ∨ ∃ o : Nat, o < 6 ∧ N 1 = nI o := by
  rcases h with ⟨h0, h1, -⟩ | ⟨h0, h1, -⟩ | ⟨s, e, o, h2, h4, ho, -, -, h0, h1, -⟩ | ⟨q, -, h0, h6, h1, -⟩ | ⟨s, e, o, q, z, h2, h3, ho, -, -, -, -, -, h0, h6, h1, -⟩
  · exact Or.inl h1
  · exact Or.inl h1
  · exact Or.inr ⟨o, ho, h1⟩
  · exact Or.inl h1
  · exact Or.inr ⟨o, ho, h1⟩
theorem NI.st4 {d : Nat} {N f : Nat → Int32} (h : NI d N f) (h0 : ¬ N 0 = 0) (h1 : ¬ N 0 = 1) (h2 : ¬ N 0 = 2) (h5 : ¬ N 0 = 5) (h3 : ¬ N 0 = 3) : N 0 = 4 := by
  obtain ⟨s, hs, e⟩ := h.st
  match s, hs, e with
  | 0, _, e => exact absurd e h0
  | 1, _, e => exact absurd e h1
  | 2, _, e => exact absurd e h2
  | 3, _, e => exact absurd e h3
  | 4, _, e => exact e
  | 5, _, e => exact absurd e h5
theorem NI.st01 {d : Nat} {N f : Nat → Int32} (h : NI d N f) (h0 : N 0 ≤ 1) (h1 : ¬ N 0 = 1) : N 0 = 0 := by
  obtain ⟨s, hs, e⟩ := h.st
  match s, hs, e with
  | 0, _, e => exact e
  | 1, _, e => exact absurd e h1
  | 2, _, e => exact absurd h0 (by rw [e]; decide)
  | 3, _, e => exact absurd h0 (by rw [e]; decide)
  | 4, _, e => exact absurd h0 (by rw [e]; decide)
  | 5, _, e => exact absurd h0 (by rw [e]; decide)
theorem dig9 : ∀ o, o < 6 → nI ((48 + nI o).toBitVec.toNat % 65536) = nI (48 + o) := by decide +kernel
abbrev PL_isWord (G : va_G) (T : Nat → ClassId) (aK aV : Nat → Nat) (Ad : Nat → Nat) (AF : Nat → Nat → Nat) (D mny : Nat → Int32) (N f g : Nat → Nat → Int32) (rk rf rg rh : Nat → Nat → Int32) (ta ca fa ga : Nat → Int32) (j d a : Nat) (sz : Nat) : Array Value → State → Prop := gPw G T aK aV [.ref (Ad 1), .ref (Ad 5), .int (nI j)] (wW T Ad AF ta ca fa ga D mny N f g rk rf rg rh) sz
abbrev QL_isWord (G : va_G) (T : Nat → ClassId) (aK aV : Nat → Nat) (Ad : Nat → Nat) (AF : Nat → Nat → Nat) (D mny : Nat → Int32) (N f g : Nat → Nat → Int32) (rk rf rg rh : Nat → Nat → Int32) (ta ca fa ga : Nat → Int32) (j d a : Nat) (sz : Nat) : Array Value → State → Outcome → State → Prop := va_Qi (fun (r : Int32) (_ : Unit) => r = 1) (gB G (wW T Ad AF ta ca fa ga D mny N f g rk rf rg rh)) (va_A (wW T Ad AF ta ca fa ga D mny N f g rk rf rg rh) sz)
set_option maxHeartbeats 4000000 in
set_option maxRecDepth 100000 in
theorem kL_isWord (l : Launch) (hl0 : l.stackTraces = false) (G : va_G) (T : Nat → ClassId) (aK aV : Nat → Nat) (Ad : Nat → Nat) (AF : Nat → Nat → Nat) (D mny : Nat → Int32) (N f g : Nat → Nat → Int32) (rk rf rg rh : Nat → Nat → Int32) (ta ca fa ga : Nat → Int32) (j d a : Nat) (sz : Nat) (hI : INV d a D mny N f rk rf rg rh ta ca fa ga) (hd : d < 2 ^ 20) (ha : a < 2 ^ 20) (hj16 : j < 16) : Met l yL_isWord wsL_isWord ({ frames := 9, cells := 12, slots := 72, locals := 151 } : Room) (PL_isWord G T aK aV Ad AF D mny N f g rk rf rg rh ta ca fa ga j d a sz) (QL_isWord G T aK aV Ad AF D mny N f g rk rf rg rh ta ca fa ga j d a sz) 12 72 (va_A (wW T Ad AF ta ca fa ga D mny N f g rk rf rg rh) sz) := by
  refine Met.ofW (cc := cL_isWord) (maxL := 8) (ret := (some .boolean)) (by decide) rfl ?_
  intro p e s m args below meth c s₁ B hml hv
  obtain ⟨rfl, ⟨hsz, hP, hK, hD0, hE⟩, hWs⟩ := hv
  have hx := B.exec
  have hb := B.bytes
  have hr := B.returns
  have hts := atoms_spec (ws := wsL_isWord) B.pre
  have hown : s.vm.findClass RL = some m.cls := findClass_of_methodNamed B.named
  have hlocks := B.notSynchronized
  subst hsz
  have hD := hD0.self (sz := s.heap.size)
  have hA : ∀ q : Nat, s.heap.size ≤ q → (va_A (wW T Ad AF ta ca fa ga D mny N f g rk rf rg rh) s.heap.size) q := fun q h => Or.inr h
  have hS : va_S (va_A (wW T Ad AF ta ca fa ga D mny N f g rk rf rg rh) s.heap.size) s.heap s.heap [] := va_S.rf
  have hl := lv_entry ([.ref (Ad 1), .ref (Ad 5), .int (nI j)]) (n := 8) (Nat.le_of_ble_eq_true rfl)
  rw [lg_entry_eq]
  generalize (lg_sl ([.ref (Ad 1), .ref (Ad 5), .int (nI j)]) ++ List.replicate (8 - (lg_sl ([.ref (Ad 1), .ref (Ad 5), .int (nI j)])).length) Slot.unset).toArray = ls at hl ⊢
  have hl : lv_has ls 8 [(0, .ref (Ad 1)), (1, .ref (Ad 5)), (2, .int (nI j))] := hl
  obtain ⟨i1, i2, ⟨m9, p9, j1, j2, j3⟩, i4, i5, i6, i7⟩ := id hI
  have hp9 : p9 < 2 ^ 20 := Nat.lt_of_le_of_lt psum_p (by rw [j3]; exact ha)
  have hm9 : ∀ k, k < 6 → m9 k < 2 ^ 20 := fun k hk => by have := psum_le (p := p9) (m := m9) hk; omega
  obtain ⟨n1, n2⟩ := i5 j hj16
  have hP : va_P G vwCl (wW T Ad AF ta ca fa ga D mny N f g rk rf rg rh) s.heap := hP
  refine lv_aload_n hx hb dL_isWord_0 rfl (lv_at hl 1 rfl) ?_
  refine lv_iload_n hx hb dL_isWord_1 rfl (lv_at hl 2 rfl) ?_
  refine giald (j := j) hx hb hK hP 0 0 rfl rfl (show (nI j : Int32) = nI j from rfl) (by omega) (by decide) dL_isWord_2 ?_
  refine gtop (y := N j 0) n2.1 ?_
  refine lv_istore_n (lv' := [(3, .int (N j 0)), (0, .ref (Ad 1)), (1, .ref (Ad 5)), (2, .int (nI j))]) hx hb dL_isWord_3 rfl hl (by decide) rfl (fun ls hl => ?_)
  refine lv_iload_n hx hb dL_isWord_4 rfl (lv_at hl 0 rfl) ?_
  refine lv_if_ne (tgt := 12) hx hb dL_isWord_5 (by decide) (fun c5 => ?_) (fun c5 => ?_)
  · skip
    refine lv_iload_n hx hb dL_isWord_12 rfl (lv_at hl 0 rfl) ?_
    refine lv_iconst (v := 1) hx hb dL_isWord_13 (by decide) ?_
    refine lv_icmp_ne (tgt := 22) hx hb dL_isWord_14 (by decide) (fun c14 => ?_) (fun c14 => ?_)
    · skip
      refine lv_iload_n hx hb dL_isWord_22 rfl (lv_at hl 0 rfl) ?_
      refine lv_iconst (v := 2) hx hb dL_isWord_23 (by decide) ?_
      refine lv_icmp_eq (tgt := 32) hx hb dL_isWord_24 (by decide) (fun c24 => ?_) (fun c24 => ?_)
      · skip
        refine lv_bipush (v := 6) hx hb dL_isWord_32 (by decide) ?_
        refine lv_goto (tgt := 48) hx hb dL_isWord_34 (by decide) ?_
        refine lv_istore (lv' := [(4, .int 6), (3, .int (N j 0)), (0, .ref (Ad 1)), (1, .ref (Ad 5)), (2, .int (nI j))]) hx hb dL_isWord_48 hl (by decide) rfl (fun ls hl => ?_)
        refine lv_iload_n hx hb dL_isWord_50 rfl (lv_at hl 1 rfl) ?_
        refine lv_if_eq (tgt := 59) hx hb dL_isWord_51 (by decide) (fun c51 => ?_) (fun c51 => ?_)
        · exact absurd c51 c5
        · skip
          refine lv_iload_n hx hb dL_isWord_54 rfl (lv_at hl 1 rfl) ?_
          refine lv_iconst (v := 5) hx hb dL_isWord_55 (by decide) ?_
          refine lv_icmp_ne (tgt := 64) hx hb dL_isWord_56 (by decide) (fun c56 => ?_) (fun c56 => ?_)
          · skip
            refine lv_iload_n hx hb dL_isWord_64 rfl (lv_at hl 1 rfl) ?_
            refine lv_iconst (v := 1) hx hb dL_isWord_65 (by decide) ?_
            refine lv_icmp_ne (tgt := 74) hx hb dL_isWord_66 (by decide) (fun c66 => ?_) (fun c66 => ?_)
            · skip
              refine lv_iload_n hx hb dL_isWord_74 rfl (lv_at hl 1 rfl) ?_
              refine lv_iconst (v := 2) hx hb dL_isWord_75 (by decide) ?_
              refine lv_icmp_ne (tgt := 84) hx hb dL_isWord_76 (by decide) (fun c76 => ?_) (fun c76 => ?_)
              · exact absurd c24 c76
              · skip
                refine lv_bipush (v := 108) hx hb dL_isWord_79 (by decide) ?_
                refine lv_goto (tgt := 96) hx hb dL_isWord_81 (by decide) ?_
                refine lv_istore (lv' := [(5, .int 108), (4, .int 6), (3, .int (N j 0)), (0, .ref (Ad 1)), (1, .ref (Ad 5)), (2, .int (nI j))]) hx hb dL_isWord_96 hl (by decide) rfl (fun ls hl => ?_)
                refine lv_iload_n hx hb dL_isWord_98 rfl (lv_at hl 2 rfl) ?_
                refine lv_if_eq (tgt := 107) hx hb dL_isWord_99 (by decide) (fun c99 => ?_) (fun c99 => ?_)
                · exact absurd c99 c5
                · skip
                  refine lv_iload_n hx hb dL_isWord_102 rfl (lv_at hl 2 rfl) ?_
                  refine lv_iconst (v := 3) hx hb dL_isWord_103 (by decide) ?_
                  refine lv_icmp_ne (tgt := 112) hx hb dL_isWord_104 (by decide) (fun c104 => ?_) (fun c104 => ?_)
                  · skip
                    refine lv_iload_n hx hb dL_isWord_112 rfl (lv_at hl 2 rfl) ?_
                    refine lv_iconst (v := 2) hx hb dL_isWord_113 (by decide) ?_
                    refine lv_icmp_ne (tgt := 122) hx hb dL_isWord_114 (by decide) (fun c114 => ?_) (fun c114 => ?_)
                    · exact absurd c24 c114
                    · skip
                      refine lv_bipush (v := 100) hx hb dL_isWord_117 (by decide) ?_
                      refine lv_goto (tgt := 124) hx hb dL_isWord_119 (by decide) ?_
                      refine lv_istore (lv' := [(6, .int 100), (5, .int 108), (4, .int 6), (3, .int (N j 0)), (0, .ref (Ad 1)), (1, .ref (Ad 5)), (2, .int (nI j))]) hx hb dL_isWord_124 hl (by decide) rfl (fun ls hl => ?_)
                      refine lv_aload_n hx hb dL_isWord_126 rfl (lv_at hl 5 rfl) ?_
                      refine lv_bipush (v := 16) hx hb dL_isWord_127 (by decide) ?_
                      refine lv_iload_n hx hb dL_isWord_129 rfl (lv_at hl 6 rfl) ?_
                      refine lv_iadd hx hb dL_isWord_130 ?_
                      refine gtop (y := nI (16 + j)) (nI_add 16 j) ?_
                      refine giald (j := (16 + j)) hx hb hK hP 0 0 rfl rfl (show (nI (16 + j) : Int32) = nI (16 + j) from rfl) (by omega) (by decide) dL_isWord_131 ?_
                      rcases n1.own with e1 | ⟨o, ho6, e1⟩
                      · skip
                        refine gtop (y := (-1)) (n2.2.1.trans e1) ?_
                        refine lv_istore (lv' := [(7, .int (-1)), (6, .int 100), (5, .int 108), (4, .int 6), (3, .int (N j 0)), (0, .ref (Ad 1)), (1, .ref (Ad 5)), (2, .int (nI j))]) hx hb dL_isWord_132 hl (by decide) rfl (fun ls hl => ?_)
                        refine lv_aload_n hx hb dL_isWord_134 rfl (lv_at hl 5 rfl) ?_
                        refine lv_iconst (v := 3) hx hb dL_isWord_135 (by decide) ?_
                        refine lv_iload_n hx hb dL_isWord_136 rfl (lv_at hl 7 rfl) ?_
                        refine lv_iconst (v := 0) hx hb dL_isWord_137 (by decide) ?_
                        refine gciT (X := wX4 T Ad ta ca fa ga) (vx_runSW (As := [.ref (Ad 1), .int 3, .int (nI j), .int 0]) (rest := []) ⟨hx, hb, hml, hown, hts⟩ (cL_asks_3_okc l hl0 G T aK aV Ad AF D mny N f g rk rf rg rh j 0 _ (by omega) (show kSign (N j) (nI j) 0 = 0 by rw [kSign, if_pos (show okI (nI j) 16 = true from okI_nat9 (n := 16) (by omega) (by omega) hj16), c24, e1]; decide)) (vx_cwSW 4 hts gL_isWord_L_asks rfl rfl rfl (by decide +kernel) ⟨Nat.le_of_ble_eq_true rfl, Nat.le_of_ble_eq_true rfl⟩) ⟨gblindW, gpreWT (X := wX4 T Ad ta ca fa ga) hWs hE hK hP hD hS hA⟩ rfl rfl hl.1 rfl (lv_room (Nat.le_of_ble_eq_true rfl)) dL_isWord_138 ⟨Nat.le_of_ble_eq_true rfl, Nat.le_of_ble_eq_true rfl⟩) hP hD hS hA wC_fst (fun r9 H locs hw hP hD hS => ?_)
                        have hP : va_P G vwCl (wW T Ad AF ta ca fa ga D mny N f g rk rf rg rh) H := hP
                        have hD : va_D (va_A (wW T Ad AF ta ca fa ga D mny N f g rk rf rg rh) s.heap.size) (wW T Ad AF ta ca fa ga D mny N f g rk rf rg rh) := hD
                        subst hw
                        refine gtop (y := 108) (by rw [sSign, c24, if_pos (by decide)]; decide) ?_
                        refine lv_iload hx hb dL_isWord_141 (lv_at hl 2 rfl) ?_
                        refine lv_icmp_ne (tgt := 243) hx hb dL_isWord_143 (by decide) (fun c143 => ?_) (fun c143 => ?_)
                        · exact absurd c143 (by decide)
                        · skip
                          refine lv_aload_n hx hb dL_isWord_146 rfl (lv_at hl 5 rfl) ?_
                          refine lv_iconst (v := 3) hx hb dL_isWord_147 (by decide) ?_
                          refine lv_iload_n hx hb dL_isWord_148 rfl (lv_at hl 7 rfl) ?_
                          refine lv_iload hx hb dL_isWord_149 (lv_at hl 3 rfl) ?_
                          refine lv_iconst (v := 1) hx hb dL_isWord_151 (by decide) ?_
                          refine lv_isub hx hb dL_isWord_152 ?_
                          refine gtop (y := 5) (by decide) ?_
                          refine gciT (X := wX4 T Ad ta ca fa ga) (vx_runSW (As := [.ref (Ad 1), .int 3, .int (nI j), .int 5]) (rest := []) ⟨hx, hb, hml, hown, hts⟩ (cL_asks_3_okc l hl0 G T aK aV Ad AF D mny N f g rk rf rg rh j 5 _ (by omega) (show kSign (N j) (nI j) 5 = 0 by rw [kSign, if_pos (show okI (nI j) 16 = true from okI_nat9 (n := 16) (by omega) (by omega) hj16), c24, e1]; decide)) (vx_cwSW 4 hts gL_isWord_L_asks rfl rfl rfl (by decide +kernel) ⟨Nat.le_of_ble_eq_true rfl, Nat.le_of_ble_eq_true rfl⟩) ⟨gblindW, gpreWT (X := wX4 T Ad ta ca fa ga) hWs hE hK hP hD hS hA⟩ rfl rfl hl.1 rfl (lv_room (Nat.le_of_ble_eq_true rfl)) dL_isWord_153 ⟨Nat.le_of_ble_eq_true rfl, Nat.le_of_ble_eq_true rfl⟩) hP hD hS hA wC_fst (fun r9 H locs hw hP hD hS => ?_)
                          have hP : va_P G vwCl (wW T Ad AF ta ca fa ga D mny N f g rk rf rg rh) H := hP
                          have hD : va_D (va_A (wW T Ad AF ta ca fa ga D mny N f g rk rf rg rh) s.heap.size) (wW T Ad AF ta ca fa ga D mny N f g rk rf rg rh) := hD
                          subst hw
                          refine gtop (y := 100) (by rw [sSign, c24, if_pos (by decide)]; decide) ?_
                          refine lv_iload hx hb dL_isWord_156 (lv_at hl 1 rfl) ?_
                          refine lv_icmp_ne (tgt := 243) hx hb dL_isWord_158 (by decide) (fun c158 => ?_) (fun c158 => ?_)
                          · exact absurd c158 (by decide)
                          · skip
                            refine lv_aload_n hx hb dL_isWord_161 rfl (lv_at hl 5 rfl) ?_
                            refine lv_iconst (v := 3) hx hb dL_isWord_162 (by decide) ?_
                            refine lv_iload_n hx hb dL_isWord_163 rfl (lv_at hl 7 rfl) ?_
                            refine lv_iconst (v := (-1)) hx hb dL_isWord_164 (by decide) ?_
                            refine gciT (X := wX4 T Ad ta ca fa ga) (vx_runSW (As := [.ref (Ad 1), .int 3, .int (nI j), .int (-1)]) (rest := []) ⟨hx, hb, hml, hown, hts⟩ (cL_asks_3_noc l hl0 G T aK aV Ad AF D mny N f g rk rf rg rh j (nI j) (-1) _ (by omega) (fun _ => ⟨rfl, hj16⟩) (fun h9 => absurd (h9.symm.trans (show kSign (N j) (nI j) (-1) = 1 by rw [kSign, if_pos (show okI (nI j) 16 = true from okI_nat9 (n := 16) (by omega) (by omega) hj16), c24, e1]; decide)) (by decide))) (vx_cwSW 4 hts gL_isWord_L_asks rfl rfl rfl (by decide +kernel) ⟨Nat.le_of_ble_eq_true rfl, Nat.le_of_ble_eq_true rfl⟩) ⟨gblindW, gpreWT (X := wX4 T Ad ta ca fa ga) hWs hE hK hP hD hS hA⟩ rfl rfl hl.1 rfl (lv_room (Nat.le_of_ble_eq_true rfl)) dL_isWord_165 ⟨Nat.le_of_ble_eq_true rfl, Nat.le_of_ble_eq_true rfl⟩) hP hD hS hA wC_fst (fun r9 H locs hw hP hD hS => ?_)
                            have hP : va_P G vwCl (wW T Ad AF ta ca fa ga D mny N f g rk rf rg rh) H := hP
                            have hD : va_D (va_A (wW T Ad AF ta ca fa ga D mny N f g rk rf rg rh) s.heap.size) (wW T Ad AF ta ca fa ga D mny N f g rk rf rg rh) := hD
                            subst hw
                            refine gtop (y := (-30)) (wD_30 (show kSign (N j) (nI j) (-1) = 1 by rw [kSign, if_pos (show okI (nI j) 16 = true from okI_nat9 (n := 16) (by omega) (by omega) hj16), c24, e1]; decide)) ?_
                            refine lv_bipush (v := (-30)) hx hb dL_isWord_168 (by decide) ?_
                            refine lv_icmp_ne (tgt := 243) hx hb dL_isWord_170 (by decide) (fun c170 => ?_) (fun c170 => ?_)
                            · exact absurd c170 (by decide)
                            · skip
                              refine lv_aload_n hx hb dL_isWord_173 rfl (lv_at hl 5 rfl) ?_
                              refine lv_iconst (v := 3) hx hb dL_isWord_174 (by decide) ?_
                              refine lv_iload_n hx hb dL_isWord_175 rfl (lv_at hl 7 rfl) ?_
                              refine lv_iload hx hb dL_isWord_176 (lv_at hl 3 rfl) ?_
                              refine gciT (X := wX4 T Ad ta ca fa ga) (vx_runSW (As := [.ref (Ad 1), .int 3, .int (nI j), .int 6]) (rest := []) ⟨hx, hb, hml, hown, hts⟩ (cL_asks_3_noc l hl0 G T aK aV Ad AF D mny N f g rk rf rg rh j (nI j) 6 _ (by omega) (fun _ => ⟨rfl, hj16⟩) (fun h9 => absurd (h9.symm.trans (show kSign (N j) (nI j) 6 = 1 by rw [kSign, if_pos (show okI (nI j) 16 = true from okI_nat9 (n := 16) (by omega) (by omega) hj16), c24, e1]; decide)) (by decide))) (vx_cwSW 4 hts gL_isWord_L_asks rfl rfl rfl (by decide +kernel) ⟨Nat.le_of_ble_eq_true rfl, Nat.le_of_ble_eq_true rfl⟩) ⟨gblindW, gpreWT (X := wX4 T Ad ta ca fa ga) hWs hE hK hP hD hS hA⟩ rfl rfl hl.1 rfl (lv_room (Nat.le_of_ble_eq_true rfl)) dL_isWord_178 ⟨Nat.le_of_ble_eq_true rfl, Nat.le_of_ble_eq_true rfl⟩) hP hD hS hA wC_fst (fun r9 H locs hw hP hD hS => ?_)
                              have hP : va_P G vwCl (wW T Ad AF ta ca fa ga D mny N f g rk rf rg rh) H := hP
                              have hD : va_D (va_A (wW T Ad AF ta ca fa ga D mny N f g rk rf rg rh) s.heap.size) (wW T Ad AF ta ca fa ga D mny N f g rk rf rg rh) := hD
                              subst hw
                              refine gtop (y := (-30)) (wD_30 (show kSign (N j) (nI j) 6 = 1 by rw [kSign, if_pos (show okI (nI j) 16 = true from okI_nat9 (n := 16) (by omega) (by omega) hj16), c24, e1]; decide)) ?_
                              refine lv_iload hx hb dL_isWord_181 (lv_at hl 0 rfl) ?_
                              refine lv_if_ge (tgt := 191) hx hb dL_isWord_183 (by decide) (fun c183 => ?_) (fun c183 => ?_)
                              · exact absurd c183 (by decide)
                              · skip
                                refine lv_bipush (v := (-30)) hx hb dL_isWord_186 (by decide) ?_
                                refine lv_goto (tgt := 193) hx hb dL_isWord_188 (by decide) ?_
                                refine lv_icmp_ne (tgt := 243) hx hb dL_isWord_193 (by decide) (fun c193 => ?_) (fun c193 => ?_)
                                · exact absurd c193 (by decide)
                                · skip
                                  refine lv_aload_n hx hb dL_isWord_196 rfl (lv_at hl 5 rfl) ?_
                                  refine lv_iconst (v := 3) hx hb dL_isWord_197 (by decide) ?_
                                  refine lv_iload_n hx hb dL_isWord_198 rfl (lv_at hl 7 rfl) ?_
                                  refine lv_iload hx hb dL_isWord_199 (lv_at hl 3 rfl) ?_
                                  refine lv_iconst (v := 1) hx hb dL_isWord_201 (by decide) ?_
                                  refine lv_iadd hx hb dL_isWord_202 ?_
                                  refine gtop (y := 7) (by decide) ?_
                                  refine gciT (X := wX4 T Ad ta ca fa ga) (vx_runSW (As := [.ref (Ad 1), .int 3, .int (nI j), .int 7]) (rest := []) ⟨hx, hb, hml, hown, hts⟩ (cL_asks_3_noc l hl0 G T aK aV Ad AF D mny N f g rk rf rg rh j (nI j) 7 _ (by omega) (fun _ => ⟨rfl, hj16⟩) (fun h9 => absurd (h9.symm.trans (show kSign (N j) (nI j) 7 = 1 by rw [kSign, if_pos (show okI (nI j) 16 = true from okI_nat9 (n := 16) (by omega) (by omega) hj16), c24, e1]; decide)) (by decide))) (vx_cwSW 4 hts gL_isWord_L_asks rfl rfl rfl (by decide +kernel) ⟨Nat.le_of_ble_eq_true rfl, Nat.le_of_ble_eq_true rfl⟩) ⟨gblindW, gpreWT (X := wX4 T Ad ta ca fa ga) hWs hE hK hP hD hS hA⟩ rfl rfl hl.1 rfl (lv_room (Nat.le_of_ble_eq_true rfl)) dL_isWord_203 ⟨Nat.le_of_ble_eq_true rfl, Nat.le_of_ble_eq_true rfl⟩) hP hD hS hA wC_fst (fun r9 H locs hw hP hD hS => ?_)
                                  have hP : va_P G vwCl (wW T Ad AF ta ca fa ga D mny N f g rk rf rg rh) H := hP
                                  have hD : va_D (va_A (wW T Ad AF ta ca fa ga D mny N f g rk rf rg rh) s.heap.size) (wW T Ad AF ta ca fa ga D mny N f g rk rf rg rh) := hD
                                  subst hw
                                  refine gtop (y := (-30)) (wD_30 (show kSign (N j) (nI j) 7 = 1 by rw [kSign, if_pos (show okI (nI j) 16 = true from okI_nat9 (n := 16) (by omega) (by omega) hj16), c24, e1]; decide)) ?_
                                  refine lv_iload hx hb dL_isWord_206 (lv_at hl 0 rfl) ?_
                                  refine lv_if_ge (tgt := 216) hx hb dL_isWord_208 (by decide) (fun c208 => ?_) (fun c208 => ?_)
                                  · exact absurd c208 (by decide)
                                  · skip
                                    refine lv_bipush (v := (-30)) hx hb dL_isWord_211 (by decide) ?_
                                    refine lv_goto (tgt := 221) hx hb dL_isWord_213 (by decide) ?_
                                    refine lv_icmp_ne (tgt := 243) hx hb dL_isWord_221 (by decide) (fun c221 => ?_) (fun c221 => ?_)
                                    · exact absurd c221 (by decide)
                                    · skip
                                      refine lv_aload_n hx hb dL_isWord_224 rfl (lv_at hl 5 rfl) ?_
                                      refine lv_iconst (v := 3) hx hb dL_isWord_225 (by decide) ?_
                                      refine lv_iload_n hx hb dL_isWord_226 rfl (lv_at hl 7 rfl) ?_
                                      refine lv_iload hx hb dL_isWord_227 (lv_at hl 3 rfl) ?_
                                      refine lv_iconst (v := 2) hx hb dL_isWord_229 (by decide) ?_
                                      refine lv_iadd hx hb dL_isWord_230 ?_
                                      refine gtop (y := 8) (by decide) ?_
                                      refine gciT (X := wX4 T Ad ta ca fa ga) (vx_runSW (As := [.ref (Ad 1), .int 3, .int (nI j), .int 8]) (rest := []) ⟨hx, hb, hml, hown, hts⟩ (cL_asks_3_noc l hl0 G T aK aV Ad AF D mny N f g rk rf rg rh j (nI j) 8 _ (by omega) (fun _ => ⟨rfl, hj16⟩) (fun h9 => absurd (h9.symm.trans (show kSign (N j) (nI j) 8 = 1 by rw [kSign, if_pos (show okI (nI j) 16 = true from okI_nat9 (n := 16) (by omega) (by omega) hj16), c24, e1]; decide)) (by decide))) (vx_cwSW 4 hts gL_isWord_L_asks rfl rfl rfl (by decide +kernel) ⟨Nat.le_of_ble_eq_true rfl, Nat.le_of_ble_eq_true rfl⟩) ⟨gblindW, gpreWT (X := wX4 T Ad ta ca fa ga) hWs hE hK hP hD hS hA⟩ rfl rfl hl.1 rfl (lv_room (Nat.le_of_ble_eq_true rfl)) dL_isWord_231 ⟨Nat.le_of_ble_eq_true rfl, Nat.le_of_ble_eq_true rfl⟩) hP hD hS hA wC_fst (fun r9 H locs hw hP hD hS => ?_)
                                      have hP : va_P G vwCl (wW T Ad AF ta ca fa ga D mny N f g rk rf rg rh) H := hP
                                      have hD : va_D (va_A (wW T Ad AF ta ca fa ga D mny N f g rk rf rg rh) s.heap.size) (wW T Ad AF ta ca fa ga D mny N f g rk rf rg rh) := hD
                                      subst hw
                                      refine gtop (y := (-30)) (wD_30 (show kSign (N j) (nI j) 8 = 1 by rw [kSign, if_pos (show okI (nI j) 16 = true from okI_nat9 (n := 16) (by omega) (by omega) hj16), c24, e1]; decide)) ?_
                                      refine lv_bipush (v := (-30)) hx hb dL_isWord_234 (by decide) ?_
                                      refine lv_icmp_ne (tgt := 243) hx hb dL_isWord_236 (by decide) (fun c236 => ?_) (fun c236 => ?_)
                                      · exact absurd c236 (by decide)
                                      · skip
                                        refine lv_iconst (v := 1) hx hb dL_isWord_239 (by decide) ?_
                                        refine lv_goto (tgt := 244) hx hb dL_isWord_240 (by decide) ?_
                                        exact W.zret (v := 1) hx hb hr (by decide) (fun t ht9 hW => ⟨⟨1, (), rfl, rfl, gBi ht9 (gfin hP (rfl))⟩, hS.F ht9⟩) hS.2.2 dL_isWord_244
                      · skip
                        refine gtop (y := nI o) (n2.2.1.trans e1) ?_
                        refine lv_istore (lv' := [(7, .int (nI o)), (6, .int 100), (5, .int 108), (4, .int 6), (3, .int (N j 0)), (0, .ref (Ad 1)), (1, .ref (Ad 5)), (2, .int (nI j))]) hx hb dL_isWord_132 hl (by decide) rfl (fun ls hl => ?_)
                        refine lv_aload_n hx hb dL_isWord_134 rfl (lv_at hl 5 rfl) ?_
                        refine lv_iconst (v := 3) hx hb dL_isWord_135 (by decide) ?_
                        refine lv_iload_n hx hb dL_isWord_136 rfl (lv_at hl 7 rfl) ?_
                        refine lv_iconst (v := 0) hx hb dL_isWord_137 (by decide) ?_
                        refine gciT (X := wX4 T Ad ta ca fa ga) (vx_runSW (As := [.ref (Ad 1), .int 3, .int (nI j), .int 0]) (rest := []) ⟨hx, hb, hml, hown, hts⟩ (cL_asks_3_okc l hl0 G T aK aV Ad AF D mny N f g rk rf rg rh j 0 _ (by omega) (show kSign (N j) (nI j) 0 = 0 by rw [kSign, if_pos (show okI (nI j) 16 = true from okI_nat9 (n := 16) (by omega) (by omega) hj16), c24, e1, if_neg (nI_nm1 (by omega))]; decide)) (vx_cwSW 4 hts gL_isWord_L_asks rfl rfl rfl (by decide +kernel) ⟨Nat.le_of_ble_eq_true rfl, Nat.le_of_ble_eq_true rfl⟩) ⟨gblindW, gpreWT (X := wX4 T Ad ta ca fa ga) hWs hE hK hP hD hS hA⟩ rfl rfl hl.1 rfl (lv_room (Nat.le_of_ble_eq_true rfl)) dL_isWord_138 ⟨Nat.le_of_ble_eq_true rfl, Nat.le_of_ble_eq_true rfl⟩) hP hD hS hA wC_fst (fun r9 H locs hw hP hD hS => ?_)
                        have hP : va_P G vwCl (wW T Ad AF ta ca fa ga D mny N f g rk rf rg rh) H := hP
                        have hD : va_D (va_A (wW T Ad AF ta ca fa ga D mny N f g rk rf rg rh) s.heap.size) (wW T Ad AF ta ca fa ga D mny N f g rk rf rg rh) := hD
                        subst hw
                        refine gtop (y := 108) (by rw [sSign, c24, if_pos (by decide)]; decide) ?_
                        refine lv_iload hx hb dL_isWord_141 (lv_at hl 2 rfl) ?_
                        refine lv_icmp_ne (tgt := 243) hx hb dL_isWord_143 (by decide) (fun c143 => ?_) (fun c143 => ?_)
                        · exact absurd c143 (by decide)
                        · skip
                          refine lv_aload_n hx hb dL_isWord_146 rfl (lv_at hl 5 rfl) ?_
                          refine lv_iconst (v := 3) hx hb dL_isWord_147 (by decide) ?_
                          refine lv_iload_n hx hb dL_isWord_148 rfl (lv_at hl 7 rfl) ?_
                          refine lv_iload hx hb dL_isWord_149 (lv_at hl 3 rfl) ?_
                          refine lv_iconst (v := 1) hx hb dL_isWord_151 (by decide) ?_
                          refine lv_isub hx hb dL_isWord_152 ?_
                          refine gtop (y := 5) (by decide) ?_
                          refine gciT (X := wX4 T Ad ta ca fa ga) (vx_runSW (As := [.ref (Ad 1), .int 3, .int (nI j), .int 5]) (rest := []) ⟨hx, hb, hml, hown, hts⟩ (cL_asks_3_okc l hl0 G T aK aV Ad AF D mny N f g rk rf rg rh j 5 _ (by omega) (show kSign (N j) (nI j) 5 = 0 by rw [kSign, if_pos (show okI (nI j) 16 = true from okI_nat9 (n := 16) (by omega) (by omega) hj16), c24, e1, if_neg (nI_nm1 (by omega))]; decide)) (vx_cwSW 4 hts gL_isWord_L_asks rfl rfl rfl (by decide +kernel) ⟨Nat.le_of_ble_eq_true rfl, Nat.le_of_ble_eq_true rfl⟩) ⟨gblindW, gpreWT (X := wX4 T Ad ta ca fa ga) hWs hE hK hP hD hS hA⟩ rfl rfl hl.1 rfl (lv_room (Nat.le_of_ble_eq_true rfl)) dL_isWord_153 ⟨Nat.le_of_ble_eq_true rfl, Nat.le_of_ble_eq_true rfl⟩) hP hD hS hA wC_fst (fun r9 H locs hw hP hD hS => ?_)
                          have hP : va_P G vwCl (wW T Ad AF ta ca fa ga D mny N f g rk rf rg rh) H := hP
                          have hD : va_D (va_A (wW T Ad AF ta ca fa ga D mny N f g rk rf rg rh) s.heap.size) (wW T Ad AF ta ca fa ga D mny N f g rk rf rg rh) := hD
                          subst hw
                          refine gtop (y := 100) (by rw [sSign, c24, if_pos (by decide)]; decide) ?_
                          refine lv_iload hx hb dL_isWord_156 (lv_at hl 1 rfl) ?_
                          refine lv_icmp_ne (tgt := 243) hx hb dL_isWord_158 (by decide) (fun c158 => ?_) (fun c158 => ?_)
                          · exact absurd c158 (by decide)
                          · skip
                            refine lv_aload_n hx hb dL_isWord_161 rfl (lv_at hl 5 rfl) ?_
                            refine lv_iconst (v := 3) hx hb dL_isWord_162 (by decide) ?_
                            refine lv_iload_n hx hb dL_isWord_163 rfl (lv_at hl 7 rfl) ?_
                            refine lv_iconst (v := (-1)) hx hb dL_isWord_164 (by decide) ?_
                            refine gciT (X := wX4 T Ad ta ca fa ga) (vx_runSW (As := [.ref (Ad 1), .int 3, .int (nI j), .int (-1)]) (rest := []) ⟨hx, hb, hml, hown, hts⟩ (cL_asks_3_noc l hl0 G T aK aV Ad AF D mny N f g rk rf rg rh j (nI j) (-1) _ (by omega) (fun _ => ⟨rfl, hj16⟩) (fun h9 => absurd (h9.symm.trans (show kSign (N j) (nI j) (-1) = 1 by rw [kSign, if_pos (show okI (nI j) 16 = true from okI_nat9 (n := 16) (by omega) (by omega) hj16), c24, e1, if_neg (nI_nm1 (by omega))]; decide)) (by decide))) (vx_cwSW 4 hts gL_isWord_L_asks rfl rfl rfl (by decide +kernel) ⟨Nat.le_of_ble_eq_true rfl, Nat.le_of_ble_eq_true rfl⟩) ⟨gblindW, gpreWT (X := wX4 T Ad ta ca fa ga) hWs hE hK hP hD hS hA⟩ rfl rfl hl.1 rfl (lv_room (Nat.le_of_ble_eq_true rfl)) dL_isWord_165 ⟨Nat.le_of_ble_eq_true rfl, Nat.le_of_ble_eq_true rfl⟩) hP hD hS hA wC_fst (fun r9 H locs hw hP hD hS => ?_)
                            have hP : va_P G vwCl (wW T Ad AF ta ca fa ga D mny N f g rk rf rg rh) H := hP
                            have hD : va_D (va_A (wW T Ad AF ta ca fa ga D mny N f g rk rf rg rh) s.heap.size) (wW T Ad AF ta ca fa ga D mny N f g rk rf rg rh) := hD
                            subst hw
                            refine gtop (y := (-30)) (wD_30 (show kSign (N j) (nI j) (-1) = 1 by rw [kSign, if_pos (show okI (nI j) 16 = true from okI_nat9 (n := 16) (by omega) (by omega) hj16), c24, e1, if_neg (nI_nm1 (by omega))]; decide)) ?_
                            refine lv_bipush (v := (-30)) hx hb dL_isWord_168 (by decide) ?_
                            refine lv_icmp_ne (tgt := 243) hx hb dL_isWord_170 (by decide) (fun c170 => ?_) (fun c170 => ?_)
                            · exact absurd c170 (by decide)
                            · skip
                              refine lv_aload_n hx hb dL_isWord_173 rfl (lv_at hl 5 rfl) ?_
                              refine lv_iconst (v := 3) hx hb dL_isWord_174 (by decide) ?_
                              refine lv_iload_n hx hb dL_isWord_175 rfl (lv_at hl 7 rfl) ?_
                              refine lv_iload hx hb dL_isWord_176 (lv_at hl 3 rfl) ?_
                              refine gciT (X := wX4 T Ad ta ca fa ga) (vx_runSW (As := [.ref (Ad 1), .int 3, .int (nI j), .int 6]) (rest := []) ⟨hx, hb, hml, hown, hts⟩ (cL_asks_3_okc l hl0 G T aK aV Ad AF D mny N f g rk rf rg rh j 6 _ (by omega) (show kSign (N j) (nI j) 6 = 0 by rw [kSign, if_pos (show okI (nI j) 16 = true from okI_nat9 (n := 16) (by omega) (by omega) hj16), c24, e1, if_neg (nI_nm1 (by omega))]; decide)) (vx_cwSW 4 hts gL_isWord_L_asks rfl rfl rfl (by decide +kernel) ⟨Nat.le_of_ble_eq_true rfl, Nat.le_of_ble_eq_true rfl⟩) ⟨gblindW, gpreWT (X := wX4 T Ad ta ca fa ga) hWs hE hK hP hD hS hA⟩ rfl rfl hl.1 rfl (lv_room (Nat.le_of_ble_eq_true rfl)) dL_isWord_178 ⟨Nat.le_of_ble_eq_true rfl, Nat.le_of_ble_eq_true rfl⟩) hP hD hS hA wC_fst (fun r9 H locs hw hP hD hS => ?_)
                              have hP : va_P G vwCl (wW T Ad AF ta ca fa ga D mny N f g rk rf rg rh) H := hP
                              have hD : va_D (va_A (wW T Ad AF ta ca fa ga D mny N f g rk rf rg rh) s.heap.size) (wW T Ad AF ta ca fa ga D mny N f g rk rf rg rh) := hD
                              subst hw
                              refine gtop (y := 58) (by rw [sSign, c24, if_neg (by decide), if_neg (by decide)]) ?_
                              refine lv_iload hx hb dL_isWord_181 (lv_at hl 0 rfl) ?_
                              refine lv_if_ge (tgt := 191) hx hb dL_isWord_183 (by decide) (fun c183 => ?_) (fun c183 => ?_)
                              · skip
                                refine lv_bipush (v := 58) hx hb dL_isWord_191 (by decide) ?_
                                refine lv_icmp_ne (tgt := 243) hx hb dL_isWord_193 (by decide) (fun c193 => ?_) (fun c193 => ?_)
                                · exact absurd c193 (by decide)
                                · skip
                                  refine lv_aload_n hx hb dL_isWord_196 rfl (lv_at hl 5 rfl) ?_
                                  refine lv_iconst (v := 3) hx hb dL_isWord_197 (by decide) ?_
                                  refine lv_iload_n hx hb dL_isWord_198 rfl (lv_at hl 7 rfl) ?_
                                  refine lv_iload hx hb dL_isWord_199 (lv_at hl 3 rfl) ?_
                                  refine lv_iconst (v := 1) hx hb dL_isWord_201 (by decide) ?_
                                  refine lv_iadd hx hb dL_isWord_202 ?_
                                  refine gtop (y := 7) (by decide) ?_
                                  refine gciT (X := wX4 T Ad ta ca fa ga) (vx_runSW (As := [.ref (Ad 1), .int 3, .int (nI j), .int 7]) (rest := []) ⟨hx, hb, hml, hown, hts⟩ (cL_asks_3_okc l hl0 G T aK aV Ad AF D mny N f g rk rf rg rh j 7 _ (by omega) (show kSign (N j) (nI j) 7 = 0 by rw [kSign, if_pos (show okI (nI j) 16 = true from okI_nat9 (n := 16) (by omega) (by omega) hj16), c24, e1, if_neg (nI_nm1 (by omega))]; decide)) (vx_cwSW 4 hts gL_isWord_L_asks rfl rfl rfl (by decide +kernel) ⟨Nat.le_of_ble_eq_true rfl, Nat.le_of_ble_eq_true rfl⟩) ⟨gblindW, gpreWT (X := wX4 T Ad ta ca fa ga) hWs hE hK hP hD hS hA⟩ rfl rfl hl.1 rfl (lv_room (Nat.le_of_ble_eq_true rfl)) dL_isWord_203 ⟨Nat.le_of_ble_eq_true rfl, Nat.le_of_ble_eq_true rfl⟩) hP hD hS hA wC_fst (fun r9 H locs hw hP hD hS => ?_)
                                  have hP : va_P G vwCl (wW T Ad AF ta ca fa ga D mny N f g rk rf rg rh) H := hP
                                  have hD : va_D (va_A (wW T Ad AF ta ca fa ga D mny N f g rk rf rg rh) s.heap.size) (wW T Ad AF ta ca fa ga D mny N f g rk rf rg rh) := hD
                                  subst hw
                                  refine gtop (y := nI (48 + o)) (by rw [sSign, c24, if_neg (by decide), if_pos (by decide), e1]; exact dig9 o ho6) ?_
                                  refine lv_iload hx hb dL_isWord_206 (lv_at hl 0 rfl) ?_
                                  refine lv_if_ge (tgt := 216) hx hb dL_isWord_208 (by decide) (fun c208 => ?_) (fun c208 => ?_)
                                  · skip
                                    refine lv_bipush (v := 48) hx hb dL_isWord_216 (by decide) ?_
                                    refine lv_iload hx hb dL_isWord_218 (lv_at hl 0 rfl) ?_
                                    refine lv_iadd hx hb dL_isWord_220 ?_
                                    refine gtop (y := nI (48 + o)) (nI_add 48 o) ?_
                                    refine lv_icmp_ne (tgt := 243) hx hb dL_isWord_221 (by decide) (fun c221 => ?_) (fun c221 => ?_)
                                    · exact absurd rfl c221
                                    · skip
                                      refine lv_aload_n hx hb dL_isWord_224 rfl (lv_at hl 5 rfl) ?_
                                      refine lv_iconst (v := 3) hx hb dL_isWord_225 (by decide) ?_
                                      refine lv_iload_n hx hb dL_isWord_226 rfl (lv_at hl 7 rfl) ?_
                                      refine lv_iload hx hb dL_isWord_227 (lv_at hl 3 rfl) ?_
                                      refine lv_iconst (v := 2) hx hb dL_isWord_229 (by decide) ?_
                                      refine lv_iadd hx hb dL_isWord_230 ?_
                                      refine gtop (y := 8) (by decide) ?_
                                      refine gciT (X := wX4 T Ad ta ca fa ga) (vx_runSW (As := [.ref (Ad 1), .int 3, .int (nI j), .int 8]) (rest := []) ⟨hx, hb, hml, hown, hts⟩ (cL_asks_3_noc l hl0 G T aK aV Ad AF D mny N f g rk rf rg rh j (nI j) 8 _ (by omega) (fun _ => ⟨rfl, hj16⟩) (fun h9 => absurd (h9.symm.trans (show kSign (N j) (nI j) 8 = 1 by rw [kSign, if_pos (show okI (nI j) 16 = true from okI_nat9 (n := 16) (by omega) (by omega) hj16), c24, e1, if_neg (nI_nm1 (by omega))]; decide)) (by decide))) (vx_cwSW 4 hts gL_isWord_L_asks rfl rfl rfl (by decide +kernel) ⟨Nat.le_of_ble_eq_true rfl, Nat.le_of_ble_eq_true rfl⟩) ⟨gblindW, gpreWT (X := wX4 T Ad ta ca fa ga) hWs hE hK hP hD hS hA⟩ rfl rfl hl.1 rfl (lv_room (Nat.le_of_ble_eq_true rfl)) dL_isWord_231 ⟨Nat.le_of_ble_eq_true rfl, Nat.le_of_ble_eq_true rfl⟩) hP hD hS hA wC_fst (fun r9 H locs hw hP hD hS => ?_)
                                      have hP : va_P G vwCl (wW T Ad AF ta ca fa ga D mny N f g rk rf rg rh) H := hP
                                      have hD : va_D (va_A (wW T Ad AF ta ca fa ga D mny N f g rk rf rg rh) s.heap.size) (wW T Ad AF ta ca fa ga D mny N f g rk rf rg rh) := hD
                                      subst hw
                                      refine gtop (y := (-30)) (wD_30 (show kSign (N j) (nI j) 8 = 1 by rw [kSign, if_pos (show okI (nI j) 16 = true from okI_nat9 (n := 16) (by omega) (by omega) hj16), c24, e1, if_neg (nI_nm1 (by omega))]; decide)) ?_
                                      refine lv_bipush (v := (-30)) hx hb dL_isWord_234 (by decide) ?_
                                      refine lv_icmp_ne (tgt := 243) hx hb dL_isWord_236 (by decide) (fun c236 => ?_) (fun c236 => ?_)
                                      · exact absurd c236 (by decide)
                                      · skip
                                        refine lv_iconst (v := 1) hx hb dL_isWord_239 (by decide) ?_
                                        refine lv_goto (tgt := 244) hx hb dL_isWord_240 (by decide) ?_
                                        exact W.zret (v := 1) hx hb hr (by decide) (fun t ht9 hW => ⟨⟨1, (), rfl, rfl, gBi ht9 (gfin hP (rfl))⟩, hS.F ht9⟩) hS.2.2 dL_isWord_244
                                  · exact absurd (nI_pos' (by omega)) c208
                              · exact absurd (nI_pos' (by omega)) c183
                  · exact absurd (c24.symm.trans c104) (by decide)
            · exact absurd c66 c14
          · exact absurd (c24.symm.trans c56) (by decide)
      · skip
        refine lv_iload_n hx hb dL_isWord_27 rfl (lv_at hl 0 rfl) ?_
        refine lv_iconst (v := 5) hx hb dL_isWord_28 (by decide) ?_
        refine lv_icmp_ne (tgt := 37) hx hb dL_isWord_29 (by decide) (fun c29 => ?_) (fun c29 => ?_)
        · skip
          refine lv_iload_n hx hb dL_isWord_37 rfl (lv_at hl 0 rfl) ?_
          refine lv_iconst (v := 3) hx hb dL_isWord_38 (by decide) ?_
          refine lv_icmp_ne (tgt := 46) hx hb dL_isWord_39 (by decide) (fun c39 => ?_) (fun c39 => ?_)
          · skip
            have e0 : N j 0 = 4 := n1.st4 c5 c14 c24 c29 c39
            refine lv_bipush (v := 10) hx hb dL_isWord_46 (by decide) ?_
            refine lv_istore (lv' := [(4, .int 10), (3, .int (N j 0)), (0, .ref (Ad 1)), (1, .ref (Ad 5)), (2, .int (nI j))]) hx hb dL_isWord_48 hl (by decide) rfl (fun ls hl => ?_)
            refine lv_iload_n hx hb dL_isWord_50 rfl (lv_at hl 1 rfl) ?_
            refine lv_if_eq (tgt := 59) hx hb dL_isWord_51 (by decide) (fun c51 => ?_) (fun c51 => ?_)
            · exact absurd c51 c5
            · skip
              refine lv_iload_n hx hb dL_isWord_54 rfl (lv_at hl 1 rfl) ?_
              refine lv_iconst (v := 5) hx hb dL_isWord_55 (by decide) ?_
              refine lv_icmp_ne (tgt := 64) hx hb dL_isWord_56 (by decide) (fun c56 => ?_) (fun c56 => ?_)
              · skip
                refine lv_iload_n hx hb dL_isWord_64 rfl (lv_at hl 1 rfl) ?_
                refine lv_iconst (v := 1) hx hb dL_isWord_65 (by decide) ?_
                refine lv_icmp_ne (tgt := 74) hx hb dL_isWord_66 (by decide) (fun c66 => ?_) (fun c66 => ?_)
                · skip
                  refine lv_iload_n hx hb dL_isWord_74 rfl (lv_at hl 1 rfl) ?_
                  refine lv_iconst (v := 2) hx hb dL_isWord_75 (by decide) ?_
                  refine lv_icmp_ne (tgt := 84) hx hb dL_isWord_76 (by decide) (fun c76 => ?_) (fun c76 => ?_)
                  · skip
                    refine lv_iload_n hx hb dL_isWord_84 rfl (lv_at hl 1 rfl) ?_
                    refine lv_iconst (v := 3) hx hb dL_isWord_85 (by decide) ?_
                    refine lv_icmp_ne (tgt := 94) hx hb dL_isWord_86 (by decide) (fun c86 => ?_) (fun c86 => ?_)
                    · skip
                      refine lv_bipush (v := 114) hx hb dL_isWord_94 (by decide) ?_
                      refine lv_istore (lv' := [(5, .int 114), (4, .int 10), (3, .int (N j 0)), (0, .ref (Ad 1)), (1, .ref (Ad 5)), (2, .int (nI j))]) hx hb dL_isWord_96 hl (by decide) rfl (fun ls hl => ?_)
                      refine lv_iload_n hx hb dL_isWord_98 rfl (lv_at hl 2 rfl) ?_
                      refine lv_if_eq (tgt := 107) hx hb dL_isWord_99 (by decide) (fun c99 => ?_) (fun c99 => ?_)
                      · exact absurd c99 c5
                      · skip
                        refine lv_iload_n hx hb dL_isWord_102 rfl (lv_at hl 2 rfl) ?_
                        refine lv_iconst (v := 3) hx hb dL_isWord_103 (by decide) ?_
                        refine lv_icmp_ne (tgt := 112) hx hb dL_isWord_104 (by decide) (fun c104 => ?_) (fun c104 => ?_)
                        · skip
                          refine lv_iload_n hx hb dL_isWord_112 rfl (lv_at hl 2 rfl) ?_
                          refine lv_iconst (v := 2) hx hb dL_isWord_113 (by decide) ?_
                          refine lv_icmp_ne (tgt := 122) hx hb dL_isWord_114 (by decide) (fun c114 => ?_) (fun c114 => ?_)
                          · skip
                            refine lv_bipush (v := 110) hx hb dL_isWord_122 (by decide) ?_
                            refine lv_istore (lv' := [(6, .int 110), (5, .int 114), (4, .int 10), (3, .int (N j 0)), (0, .ref (Ad 1)), (1, .ref (Ad 5)), (2, .int (nI j))]) hx hb dL_isWord_124 hl (by decide) rfl (fun ls hl => ?_)
                            refine lv_aload_n hx hb dL_isWord_126 rfl (lv_at hl 5 rfl) ?_
                            refine lv_bipush (v := 16) hx hb dL_isWord_127 (by decide) ?_
                            refine lv_iload_n hx hb dL_isWord_129 rfl (lv_at hl 6 rfl) ?_
                            refine lv_iadd hx hb dL_isWord_130 ?_
                            refine gtop (y := nI (16 + j)) (nI_add 16 j) ?_
                            refine giald (j := (16 + j)) hx hb hK hP 0 0 rfl rfl (show (nI (16 + j) : Int32) = nI (16 + j) from rfl) (by omega) (by decide) dL_isWord_131 ?_
                            rcases n1.own with e1 | ⟨o, ho6, e1⟩
                            · skip
                              refine gtop (y := (-1)) (n2.2.1.trans e1) ?_
                              refine lv_istore (lv' := [(7, .int (-1)), (6, .int 110), (5, .int 114), (4, .int 10), (3, .int (N j 0)), (0, .ref (Ad 1)), (1, .ref (Ad 5)), (2, .int (nI j))]) hx hb dL_isWord_132 hl (by decide) rfl (fun ls hl => ?_)
                              refine lv_aload_n hx hb dL_isWord_134 rfl (lv_at hl 5 rfl) ?_
                              refine lv_iconst (v := 3) hx hb dL_isWord_135 (by decide) ?_
                              refine lv_iload_n hx hb dL_isWord_136 rfl (lv_at hl 7 rfl) ?_
                              refine lv_iconst (v := 0) hx hb dL_isWord_137 (by decide) ?_
                              refine gciT (X := wX4 T Ad ta ca fa ga) (vx_runSW (As := [.ref (Ad 1), .int 3, .int (nI j), .int 0]) (rest := []) ⟨hx, hb, hml, hown, hts⟩ (cL_asks_3_okc l hl0 G T aK aV Ad AF D mny N f g rk rf rg rh j 0 _ (by omega) (show kSign (N j) (nI j) 0 = 0 by rw [kSign, if_pos (show okI (nI j) 16 = true from okI_nat9 (n := 16) (by omega) (by omega) hj16), e0, e1]; decide)) (vx_cwSW 4 hts gL_isWord_L_asks rfl rfl rfl (by decide +kernel) ⟨Nat.le_of_ble_eq_true rfl, Nat.le_of_ble_eq_true rfl⟩) ⟨gblindW, gpreWT (X := wX4 T Ad ta ca fa ga) hWs hE hK hP hD hS hA⟩ rfl rfl hl.1 rfl (lv_room (Nat.le_of_ble_eq_true rfl)) dL_isWord_138 ⟨Nat.le_of_ble_eq_true rfl, Nat.le_of_ble_eq_true rfl⟩) hP hD hS hA wC_fst (fun r9 H locs hw hP hD hS => ?_)
                              have hP : va_P G vwCl (wW T Ad AF ta ca fa ga D mny N f g rk rf rg rh) H := hP
                              have hD : va_D (va_A (wW T Ad AF ta ca fa ga D mny N f g rk rf rg rh) s.heap.size) (wW T Ad AF ta ca fa ga D mny N f g rk rf rg rh) := hD
                              subst hw
                              refine gtop (y := 114) (by rw [sSign, e0, if_pos (by decide)]; decide) ?_
                              refine lv_iload hx hb dL_isWord_141 (lv_at hl 2 rfl) ?_
                              refine lv_icmp_ne (tgt := 243) hx hb dL_isWord_143 (by decide) (fun c143 => ?_) (fun c143 => ?_)
                              · exact absurd c143 (by decide)
                              · skip
                                refine lv_aload_n hx hb dL_isWord_146 rfl (lv_at hl 5 rfl) ?_
                                refine lv_iconst (v := 3) hx hb dL_isWord_147 (by decide) ?_
                                refine lv_iload_n hx hb dL_isWord_148 rfl (lv_at hl 7 rfl) ?_
                                refine lv_iload hx hb dL_isWord_149 (lv_at hl 3 rfl) ?_
                                refine lv_iconst (v := 1) hx hb dL_isWord_151 (by decide) ?_
                                refine lv_isub hx hb dL_isWord_152 ?_
                                refine gtop (y := 9) (by decide) ?_
                                refine gciT (X := wX4 T Ad ta ca fa ga) (vx_runSW (As := [.ref (Ad 1), .int 3, .int (nI j), .int 9]) (rest := []) ⟨hx, hb, hml, hown, hts⟩ (cL_asks_3_okc l hl0 G T aK aV Ad AF D mny N f g rk rf rg rh j 9 _ (by omega) (show kSign (N j) (nI j) 9 = 0 by rw [kSign, if_pos (show okI (nI j) 16 = true from okI_nat9 (n := 16) (by omega) (by omega) hj16), e0, e1]; decide)) (vx_cwSW 4 hts gL_isWord_L_asks rfl rfl rfl (by decide +kernel) ⟨Nat.le_of_ble_eq_true rfl, Nat.le_of_ble_eq_true rfl⟩) ⟨gblindW, gpreWT (X := wX4 T Ad ta ca fa ga) hWs hE hK hP hD hS hA⟩ rfl rfl hl.1 rfl (lv_room (Nat.le_of_ble_eq_true rfl)) dL_isWord_153 ⟨Nat.le_of_ble_eq_true rfl, Nat.le_of_ble_eq_true rfl⟩) hP hD hS hA wC_fst (fun r9 H locs hw hP hD hS => ?_)
                                have hP : va_P G vwCl (wW T Ad AF ta ca fa ga D mny N f g rk rf rg rh) H := hP
                                have hD : va_D (va_A (wW T Ad AF ta ca fa ga D mny N f g rk rf rg rh) s.heap.size) (wW T Ad AF ta ca fa ga D mny N f g rk rf rg rh) := hD
                                subst hw
                                refine gtop (y := 110) (by rw [sSign, e0, if_pos (by decide)]; decide) ?_
                                refine lv_iload hx hb dL_isWord_156 (lv_at hl 1 rfl) ?_
                                refine lv_icmp_ne (tgt := 243) hx hb dL_isWord_158 (by decide) (fun c158 => ?_) (fun c158 => ?_)
                                · exact absurd c158 (by decide)
                                · skip
                                  refine lv_aload_n hx hb dL_isWord_161 rfl (lv_at hl 5 rfl) ?_
                                  refine lv_iconst (v := 3) hx hb dL_isWord_162 (by decide) ?_
                                  refine lv_iload_n hx hb dL_isWord_163 rfl (lv_at hl 7 rfl) ?_
                                  refine lv_iconst (v := (-1)) hx hb dL_isWord_164 (by decide) ?_
                                  refine gciT (X := wX4 T Ad ta ca fa ga) (vx_runSW (As := [.ref (Ad 1), .int 3, .int (nI j), .int (-1)]) (rest := []) ⟨hx, hb, hml, hown, hts⟩ (cL_asks_3_noc l hl0 G T aK aV Ad AF D mny N f g rk rf rg rh j (nI j) (-1) _ (by omega) (fun _ => ⟨rfl, hj16⟩) (fun h9 => absurd (h9.symm.trans (show kSign (N j) (nI j) (-1) = 1 by rw [kSign, if_pos (show okI (nI j) 16 = true from okI_nat9 (n := 16) (by omega) (by omega) hj16), e0, e1]; decide)) (by decide))) (vx_cwSW 4 hts gL_isWord_L_asks rfl rfl rfl (by decide +kernel) ⟨Nat.le_of_ble_eq_true rfl, Nat.le_of_ble_eq_true rfl⟩) ⟨gblindW, gpreWT (X := wX4 T Ad ta ca fa ga) hWs hE hK hP hD hS hA⟩ rfl rfl hl.1 rfl (lv_room (Nat.le_of_ble_eq_true rfl)) dL_isWord_165 ⟨Nat.le_of_ble_eq_true rfl, Nat.le_of_ble_eq_true rfl⟩) hP hD hS hA wC_fst (fun r9 H locs hw hP hD hS => ?_)
                                  have hP : va_P G vwCl (wW T Ad AF ta ca fa ga D mny N f g rk rf rg rh) H := hP
                                  have hD : va_D (va_A (wW T Ad AF ta ca fa ga D mny N f g rk rf rg rh) s.heap.size) (wW T Ad AF ta ca fa ga D mny N f g rk rf rg rh) := hD
                                  subst hw
                                  refine gtop (y := (-30)) (wD_30 (show kSign (N j) (nI j) (-1) = 1 by rw [kSign, if_pos (show okI (nI j) 16 = true from okI_nat9 (n := 16) (by omega) (by omega) hj16), e0, e1]; decide)) ?_
                                  refine lv_bipush (v := (-30)) hx hb dL_isWord_168 (by decide) ?_
                                  refine lv_icmp_ne (tgt := 243) hx hb dL_isWord_170 (by decide) (fun c170 => ?_) (fun c170 => ?_)
                                  · exact absurd c170 (by decide)
                                  · skip
                                    refine lv_aload_n hx hb dL_isWord_173 rfl (lv_at hl 5 rfl) ?_
                                    refine lv_iconst (v := 3) hx hb dL_isWord_174 (by decide) ?_
                                    refine lv_iload_n hx hb dL_isWord_175 rfl (lv_at hl 7 rfl) ?_
                                    refine lv_iload hx hb dL_isWord_176 (lv_at hl 3 rfl) ?_
                                    refine gciT (X := wX4 T Ad ta ca fa ga) (vx_runSW (As := [.ref (Ad 1), .int 3, .int (nI j), .int 10]) (rest := []) ⟨hx, hb, hml, hown, hts⟩ (cL_asks_3_noc l hl0 G T aK aV Ad AF D mny N f g rk rf rg rh j (nI j) 10 _ (by omega) (fun _ => ⟨rfl, hj16⟩) (fun h9 => absurd (h9.symm.trans (show kSign (N j) (nI j) 10 = 1 by rw [kSign, if_pos (show okI (nI j) 16 = true from okI_nat9 (n := 16) (by omega) (by omega) hj16), e0, e1]; decide)) (by decide))) (vx_cwSW 4 hts gL_isWord_L_asks rfl rfl rfl (by decide +kernel) ⟨Nat.le_of_ble_eq_true rfl, Nat.le_of_ble_eq_true rfl⟩) ⟨gblindW, gpreWT (X := wX4 T Ad ta ca fa ga) hWs hE hK hP hD hS hA⟩ rfl rfl hl.1 rfl (lv_room (Nat.le_of_ble_eq_true rfl)) dL_isWord_178 ⟨Nat.le_of_ble_eq_true rfl, Nat.le_of_ble_eq_true rfl⟩) hP hD hS hA wC_fst (fun r9 H locs hw hP hD hS => ?_)
                                    have hP : va_P G vwCl (wW T Ad AF ta ca fa ga D mny N f g rk rf rg rh) H := hP
                                    have hD : va_D (va_A (wW T Ad AF ta ca fa ga D mny N f g rk rf rg rh) s.heap.size) (wW T Ad AF ta ca fa ga D mny N f g rk rf rg rh) := hD
                                    subst hw
                                    refine gtop (y := (-30)) (wD_30 (show kSign (N j) (nI j) 10 = 1 by rw [kSign, if_pos (show okI (nI j) 16 = true from okI_nat9 (n := 16) (by omega) (by omega) hj16), e0, e1]; decide)) ?_
                                    refine lv_iload hx hb dL_isWord_181 (lv_at hl 0 rfl) ?_
                                    refine lv_if_ge (tgt := 191) hx hb dL_isWord_183 (by decide) (fun c183 => ?_) (fun c183 => ?_)
                                    · exact absurd c183 (by decide)
                                    · skip
                                      refine lv_bipush (v := (-30)) hx hb dL_isWord_186 (by decide) ?_
                                      refine lv_goto (tgt := 193) hx hb dL_isWord_188 (by decide) ?_
                                      refine lv_icmp_ne (tgt := 243) hx hb dL_isWord_193 (by decide) (fun c193 => ?_) (fun c193 => ?_)
                                      · exact absurd c193 (by decide)
                                      · skip
                                        refine lv_aload_n hx hb dL_isWord_196 rfl (lv_at hl 5 rfl) ?_
                                        refine lv_iconst (v := 3) hx hb dL_isWord_197 (by decide) ?_
                                        refine lv_iload_n hx hb dL_isWord_198 rfl (lv_at hl 7 rfl) ?_
                                        refine lv_iload hx hb dL_isWord_199 (lv_at hl 3 rfl) ?_
                                        refine lv_iconst (v := 1) hx hb dL_isWord_201 (by decide) ?_
                                        refine lv_iadd hx hb dL_isWord_202 ?_
                                        refine gtop (y := 11) (by decide) ?_
                                        refine gciT (X := wX4 T Ad ta ca fa ga) (vx_runSW (As := [.ref (Ad 1), .int 3, .int (nI j), .int 11]) (rest := []) ⟨hx, hb, hml, hown, hts⟩ (cL_asks_3_noc l hl0 G T aK aV Ad AF D mny N f g rk rf rg rh j (nI j) 11 _ (by omega) (fun _ => ⟨rfl, hj16⟩) (fun h9 => absurd (h9.symm.trans (show kSign (N j) (nI j) 11 = 1 by rw [kSign, if_pos (show okI (nI j) 16 = true from okI_nat9 (n := 16) (by omega) (by omega) hj16), e0, e1]; decide)) (by decide))) (vx_cwSW 4 hts gL_isWord_L_asks rfl rfl rfl (by decide +kernel) ⟨Nat.le_of_ble_eq_true rfl, Nat.le_of_ble_eq_true rfl⟩) ⟨gblindW, gpreWT (X := wX4 T Ad ta ca fa ga) hWs hE hK hP hD hS hA⟩ rfl rfl hl.1 rfl (lv_room (Nat.le_of_ble_eq_true rfl)) dL_isWord_203 ⟨Nat.le_of_ble_eq_true rfl, Nat.le_of_ble_eq_true rfl⟩) hP hD hS hA wC_fst (fun r9 H locs hw hP hD hS => ?_)
                                        have hP : va_P G vwCl (wW T Ad AF ta ca fa ga D mny N f g rk rf rg rh) H := hP
                                        have hD : va_D (va_A (wW T Ad AF ta ca fa ga D mny N f g rk rf rg rh) s.heap.size) (wW T Ad AF ta ca fa ga D mny N f g rk rf rg rh) := hD
                                        subst hw
                                        refine gtop (y := (-30)) (wD_30 (show kSign (N j) (nI j) 11 = 1 by rw [kSign, if_pos (show okI (nI j) 16 = true from okI_nat9 (n := 16) (by omega) (by omega) hj16), e0, e1]; decide)) ?_
                                        refine lv_iload hx hb dL_isWord_206 (lv_at hl 0 rfl) ?_
                                        refine lv_if_ge (tgt := 216) hx hb dL_isWord_208 (by decide) (fun c208 => ?_) (fun c208 => ?_)
                                        · exact absurd c208 (by decide)
                                        · skip
                                          refine lv_bipush (v := (-30)) hx hb dL_isWord_211 (by decide) ?_
                                          refine lv_goto (tgt := 221) hx hb dL_isWord_213 (by decide) ?_
                                          refine lv_icmp_ne (tgt := 243) hx hb dL_isWord_221 (by decide) (fun c221 => ?_) (fun c221 => ?_)
                                          · exact absurd c221 (by decide)
                                          · skip
                                            refine lv_aload_n hx hb dL_isWord_224 rfl (lv_at hl 5 rfl) ?_
                                            refine lv_iconst (v := 3) hx hb dL_isWord_225 (by decide) ?_
                                            refine lv_iload_n hx hb dL_isWord_226 rfl (lv_at hl 7 rfl) ?_
                                            refine lv_iload hx hb dL_isWord_227 (lv_at hl 3 rfl) ?_
                                            refine lv_iconst (v := 2) hx hb dL_isWord_229 (by decide) ?_
                                            refine lv_iadd hx hb dL_isWord_230 ?_
                                            refine gtop (y := 12) (by decide) ?_
                                            refine gciT (X := wX4 T Ad ta ca fa ga) (vx_runSW (As := [.ref (Ad 1), .int 3, .int (nI j), .int 12]) (rest := []) ⟨hx, hb, hml, hown, hts⟩ (cL_asks_3_noc l hl0 G T aK aV Ad AF D mny N f g rk rf rg rh j (nI j) 12 _ (by omega) (fun _ => ⟨rfl, hj16⟩) (fun h9 => absurd (h9.symm.trans (show kSign (N j) (nI j) 12 = 1 by rw [kSign, if_pos (show okI (nI j) 16 = true from okI_nat9 (n := 16) (by omega) (by omega) hj16), e0, e1]; decide)) (by decide))) (vx_cwSW 4 hts gL_isWord_L_asks rfl rfl rfl (by decide +kernel) ⟨Nat.le_of_ble_eq_true rfl, Nat.le_of_ble_eq_true rfl⟩) ⟨gblindW, gpreWT (X := wX4 T Ad ta ca fa ga) hWs hE hK hP hD hS hA⟩ rfl rfl hl.1 rfl (lv_room (Nat.le_of_ble_eq_true rfl)) dL_isWord_231 ⟨Nat.le_of_ble_eq_true rfl, Nat.le_of_ble_eq_true rfl⟩) hP hD hS hA wC_fst (fun r9 H locs hw hP hD hS => ?_)
                                            have hP : va_P G vwCl (wW T Ad AF ta ca fa ga D mny N f g rk rf rg rh) H := hP
                                            have hD : va_D (va_A (wW T Ad AF ta ca fa ga D mny N f g rk rf rg rh) s.heap.size) (wW T Ad AF ta ca fa ga D mny N f g rk rf rg rh) := hD
                                            subst hw
                                            refine gtop (y := (-30)) (wD_30 (show kSign (N j) (nI j) 12 = 1 by rw [kSign, if_pos (show okI (nI j) 16 = true from okI_nat9 (n := 16) (by omega) (by omega) hj16), e0, e1]; decide)) ?_
                                            refine lv_bipush (v := (-30)) hx hb dL_isWord_234 (by decide) ?_
                                            refine lv_icmp_ne (tgt := 243) hx hb dL_isWord_236 (by decide) (fun c236 => ?_) (fun c236 => ?_)
                                            · exact absurd c236 (by decide)
                                            · skip
                                              refine lv_iconst (v := 1) hx hb dL_isWord_239 (by decide) ?_
                                              refine lv_goto (tgt := 244) hx hb dL_isWord_240 (by decide) ?_
                                              exact W.zret (v := 1) hx hb hr (by decide) (fun t ht9 hW => ⟨⟨1, (), rfl, rfl, gBi ht9 (gfin hP (rfl))⟩, hS.F ht9⟩) hS.2.2 dL_isWord_244
                            · skip
                              refine gtop (y := nI o) (n2.2.1.trans e1) ?_
                              refine lv_istore (lv' := [(7, .int (nI o)), (6, .int 110), (5, .int 114), (4, .int 10), (3, .int (N j 0)), (0, .ref (Ad 1)), (1, .ref (Ad 5)), (2, .int (nI j))]) hx hb dL_isWord_132 hl (by decide) rfl (fun ls hl => ?_)
                              refine lv_aload_n hx hb dL_isWord_134 rfl (lv_at hl 5 rfl) ?_
                              refine lv_iconst (v := 3) hx hb dL_isWord_135 (by decide) ?_
                              refine lv_iload_n hx hb dL_isWord_136 rfl (lv_at hl 7 rfl) ?_
                              refine lv_iconst (v := 0) hx hb dL_isWord_137 (by decide) ?_
                              refine gciT (X := wX4 T Ad ta ca fa ga) (vx_runSW (As := [.ref (Ad 1), .int 3, .int (nI j), .int 0]) (rest := []) ⟨hx, hb, hml, hown, hts⟩ (cL_asks_3_okc l hl0 G T aK aV Ad AF D mny N f g rk rf rg rh j 0 _ (by omega) (show kSign (N j) (nI j) 0 = 0 by rw [kSign, if_pos (show okI (nI j) 16 = true from okI_nat9 (n := 16) (by omega) (by omega) hj16), e0, e1, if_neg (nI_nm1 (by omega))]; decide)) (vx_cwSW 4 hts gL_isWord_L_asks rfl rfl rfl (by decide +kernel) ⟨Nat.le_of_ble_eq_true rfl, Nat.le_of_ble_eq_true rfl⟩) ⟨gblindW, gpreWT (X := wX4 T Ad ta ca fa ga) hWs hE hK hP hD hS hA⟩ rfl rfl hl.1 rfl (lv_room (Nat.le_of_ble_eq_true rfl)) dL_isWord_138 ⟨Nat.le_of_ble_eq_true rfl, Nat.le_of_ble_eq_true rfl⟩) hP hD hS hA wC_fst (fun r9 H locs hw hP hD hS => ?_)
                              have hP : va_P G vwCl (wW T Ad AF ta ca fa ga D mny N f g rk rf rg rh) H := hP
                              have hD : va_D (va_A (wW T Ad AF ta ca fa ga D mny N f g rk rf rg rh) s.heap.size) (wW T Ad AF ta ca fa ga D mny N f g rk rf rg rh) := hD
                              subst hw
                              refine gtop (y := 114) (by rw [sSign, e0, if_pos (by decide)]; decide) ?_
                              refine lv_iload hx hb dL_isWord_141 (lv_at hl 2 rfl) ?_
                              refine lv_icmp_ne (tgt := 243) hx hb dL_isWord_143 (by decide) (fun c143 => ?_) (fun c143 => ?_)
                              · exact absurd c143 (by decide)
                              · skip
                                refine lv_aload_n hx hb dL_isWord_146 rfl (lv_at hl 5 rfl) ?_
                                refine lv_iconst (v := 3) hx hb dL_isWord_147 (by decide) ?_
                                refine lv_iload_n hx hb dL_isWord_148 rfl (lv_at hl 7 rfl) ?_
                                refine lv_iload hx hb dL_isWord_149 (lv_at hl 3 rfl) ?_
                                refine lv_iconst (v := 1) hx hb dL_isWord_151 (by decide) ?_
                                refine lv_isub hx hb dL_isWord_152 ?_
                                refine gtop (y := 9) (by decide) ?_
                                refine gciT (X := wX4 T Ad ta ca fa ga) (vx_runSW (As := [.ref (Ad 1), .int 3, .int (nI j), .int 9]) (rest := []) ⟨hx, hb, hml, hown, hts⟩ (cL_asks_3_okc l hl0 G T aK aV Ad AF D mny N f g rk rf rg rh j 9 _ (by omega) (show kSign (N j) (nI j) 9 = 0 by rw [kSign, if_pos (show okI (nI j) 16 = true from okI_nat9 (n := 16) (by omega) (by omega) hj16), e0, e1, if_neg (nI_nm1 (by omega))]; decide)) (vx_cwSW 4 hts gL_isWord_L_asks rfl rfl rfl (by decide +kernel) ⟨Nat.le_of_ble_eq_true rfl, Nat.le_of_ble_eq_true rfl⟩) ⟨gblindW, gpreWT (X := wX4 T Ad ta ca fa ga) hWs hE hK hP hD hS hA⟩ rfl rfl hl.1 rfl (lv_room (Nat.le_of_ble_eq_true rfl)) dL_isWord_153 ⟨Nat.le_of_ble_eq_true rfl, Nat.le_of_ble_eq_true rfl⟩) hP hD hS hA wC_fst (fun r9 H locs hw hP hD hS => ?_)
                                have hP : va_P G vwCl (wW T Ad AF ta ca fa ga D mny N f g rk rf rg rh) H := hP
                                have hD : va_D (va_A (wW T Ad AF ta ca fa ga D mny N f g rk rf rg rh) s.heap.size) (wW T Ad AF ta ca fa ga D mny N f g rk rf rg rh) := hD
                                subst hw
                                refine gtop (y := 110) (by rw [sSign, e0, if_pos (by decide)]; decide) ?_
                                refine lv_iload hx hb dL_isWord_156 (lv_at hl 1 rfl) ?_
                                refine lv_icmp_ne (tgt := 243) hx hb dL_isWord_158 (by decide) (fun c158 => ?_) (fun c158 => ?_)
                                · exact absurd c158 (by decide)
                                · skip
                                  refine lv_aload_n hx hb dL_isWord_161 rfl (lv_at hl 5 rfl) ?_
                                  refine lv_iconst (v := 3) hx hb dL_isWord_162 (by decide) ?_
                                  refine lv_iload_n hx hb dL_isWord_163 rfl (lv_at hl 7 rfl) ?_
                                  refine lv_iconst (v := (-1)) hx hb dL_isWord_164 (by decide) ?_
                                  refine gciT (X := wX4 T Ad ta ca fa ga) (vx_runSW (As := [.ref (Ad 1), .int 3, .int (nI j), .int (-1)]) (rest := []) ⟨hx, hb, hml, hown, hts⟩ (cL_asks_3_noc l hl0 G T aK aV Ad AF D mny N f g rk rf rg rh j (nI j) (-1) _ (by omega) (fun _ => ⟨rfl, hj16⟩) (fun h9 => absurd (h9.symm.trans (show kSign (N j) (nI j) (-1) = 1 by rw [kSign, if_pos (show okI (nI j) 16 = true from okI_nat9 (n := 16) (by omega) (by omega) hj16), e0, e1, if_neg (nI_nm1 (by omega))]; decide)) (by decide))) (vx_cwSW 4 hts gL_isWord_L_asks rfl rfl rfl (by decide +kernel) ⟨Nat.le_of_ble_eq_true rfl, Nat.le_of_ble_eq_true rfl⟩) ⟨gblindW, gpreWT (X := wX4 T Ad ta ca fa ga) hWs hE hK hP hD hS hA⟩ rfl rfl hl.1 rfl (lv_room (Nat.le_of_ble_eq_true rfl)) dL_isWord_165 ⟨Nat.le_of_ble_eq_true rfl, Nat.le_of_ble_eq_true rfl⟩) hP hD hS hA wC_fst (fun r9 H locs hw hP hD hS => ?_)
                                  have hP : va_P G vwCl (wW T Ad AF ta ca fa ga D mny N f g rk rf rg rh) H := hP
                                  have hD : va_D (va_A (wW T Ad AF ta ca fa ga D mny N f g rk rf rg rh) s.heap.size) (wW T Ad AF ta ca fa ga D mny N f g rk rf rg rh) := hD
                                  subst hw
                                  refine gtop (y := (-30)) (wD_30 (show kSign (N j) (nI j) (-1) = 1 by rw [kSign, if_pos (show okI (nI j) 16 = true from okI_nat9 (n := 16) (by omega) (by omega) hj16), e0, e1, if_neg (nI_nm1 (by omega))]; decide)) ?_
                                  refine lv_bipush (v := (-30)) hx hb dL_isWord_168 (by decide) ?_
                                  refine lv_icmp_ne (tgt := 243) hx hb dL_isWord_170 (by decide) (fun c170 => ?_) (fun c170 => ?_)
                                  · exact absurd c170 (by decide)
                                  · skip
                                    refine lv_aload_n hx hb dL_isWord_173 rfl (lv_at hl 5 rfl) ?_
                                    refine lv_iconst (v := 3) hx hb dL_isWord_174 (by decide) ?_
                                    refine lv_iload_n hx hb dL_isWord_175 rfl (lv_at hl 7 rfl) ?_
                                    refine lv_iload hx hb dL_isWord_176 (lv_at hl 3 rfl) ?_
                                    refine gciT (X := wX4 T Ad ta ca fa ga) (vx_runSW (As := [.ref (Ad 1), .int 3, .int (nI j), .int 10]) (rest := []) ⟨hx, hb, hml, hown, hts⟩ (cL_asks_3_okc l hl0 G T aK aV Ad AF D mny N f g rk rf rg rh j 10 _ (by omega) (show kSign (N j) (nI j) 10 = 0 by rw [kSign, if_pos (show okI (nI j) 16 = true from okI_nat9 (n := 16) (by omega) (by omega) hj16), e0, e1, if_neg (nI_nm1 (by omega))]; decide)) (vx_cwSW 4 hts gL_isWord_L_asks rfl rfl rfl (by decide +kernel) ⟨Nat.le_of_ble_eq_true rfl, Nat.le_of_ble_eq_true rfl⟩) ⟨gblindW, gpreWT (X := wX4 T Ad ta ca fa ga) hWs hE hK hP hD hS hA⟩ rfl rfl hl.1 rfl (lv_room (Nat.le_of_ble_eq_true rfl)) dL_isWord_178 ⟨Nat.le_of_ble_eq_true rfl, Nat.le_of_ble_eq_true rfl⟩) hP hD hS hA wC_fst (fun r9 H locs hw hP hD hS => ?_)
                                    have hP : va_P G vwCl (wW T Ad AF ta ca fa ga D mny N f g rk rf rg rh) H := hP
                                    have hD : va_D (va_A (wW T Ad AF ta ca fa ga D mny N f g rk rf rg rh) s.heap.size) (wW T Ad AF ta ca fa ga D mny N f g rk rf rg rh) := hD
                                    subst hw
                                    refine gtop (y := 58) (by rw [sSign, e0, if_neg (by decide), if_neg (by decide)]) ?_
                                    refine lv_iload hx hb dL_isWord_181 (lv_at hl 0 rfl) ?_
                                    refine lv_if_ge (tgt := 191) hx hb dL_isWord_183 (by decide) (fun c183 => ?_) (fun c183 => ?_)
                                    · skip
                                      refine lv_bipush (v := 58) hx hb dL_isWord_191 (by decide) ?_
                                      refine lv_icmp_ne (tgt := 243) hx hb dL_isWord_193 (by decide) (fun c193 => ?_) (fun c193 => ?_)
                                      · exact absurd c193 (by decide)
                                      · skip
                                        refine lv_aload_n hx hb dL_isWord_196 rfl (lv_at hl 5 rfl) ?_
                                        refine lv_iconst (v := 3) hx hb dL_isWord_197 (by decide) ?_
                                        refine lv_iload_n hx hb dL_isWord_198 rfl (lv_at hl 7 rfl) ?_
                                        refine lv_iload hx hb dL_isWord_199 (lv_at hl 3 rfl) ?_
                                        refine lv_iconst (v := 1) hx hb dL_isWord_201 (by decide) ?_
                                        refine lv_iadd hx hb dL_isWord_202 ?_
                                        refine gtop (y := 11) (by decide) ?_
                                        refine gciT (X := wX4 T Ad ta ca fa ga) (vx_runSW (As := [.ref (Ad 1), .int 3, .int (nI j), .int 11]) (rest := []) ⟨hx, hb, hml, hown, hts⟩ (cL_asks_3_okc l hl0 G T aK aV Ad AF D mny N f g rk rf rg rh j 11 _ (by omega) (show kSign (N j) (nI j) 11 = 0 by rw [kSign, if_pos (show okI (nI j) 16 = true from okI_nat9 (n := 16) (by omega) (by omega) hj16), e0, e1, if_neg (nI_nm1 (by omega))]; decide)) (vx_cwSW 4 hts gL_isWord_L_asks rfl rfl rfl (by decide +kernel) ⟨Nat.le_of_ble_eq_true rfl, Nat.le_of_ble_eq_true rfl⟩) ⟨gblindW, gpreWT (X := wX4 T Ad ta ca fa ga) hWs hE hK hP hD hS hA⟩ rfl rfl hl.1 rfl (lv_room (Nat.le_of_ble_eq_true rfl)) dL_isWord_203 ⟨Nat.le_of_ble_eq_true rfl, Nat.le_of_ble_eq_true rfl⟩) hP hD hS hA wC_fst (fun r9 H locs hw hP hD hS => ?_)
                                        have hP : va_P G vwCl (wW T Ad AF ta ca fa ga D mny N f g rk rf rg rh) H := hP
                                        have hD : va_D (va_A (wW T Ad AF ta ca fa ga D mny N f g rk rf rg rh) s.heap.size) (wW T Ad AF ta ca fa ga D mny N f g rk rf rg rh) := hD
                                        subst hw
                                        refine gtop (y := nI (48 + o)) (by rw [sSign, e0, if_neg (by decide), if_pos (by decide), e1]; exact dig9 o ho6) ?_
                                        refine lv_iload hx hb dL_isWord_206 (lv_at hl 0 rfl) ?_
                                        refine lv_if_ge (tgt := 216) hx hb dL_isWord_208 (by decide) (fun c208 => ?_) (fun c208 => ?_)
                                        · skip
                                          refine lv_bipush (v := 48) hx hb dL_isWord_216 (by decide) ?_
                                          refine lv_iload hx hb dL_isWord_218 (lv_at hl 0 rfl) ?_
                                          refine lv_iadd hx hb dL_isWord_220 ?_
                                          refine gtop (y := nI (48 + o)) (nI_add 48 o) ?_
                                          refine lv_icmp_ne (tgt := 243) hx hb dL_isWord_221 (by decide) (fun c221 => ?_) (fun c221 => ?_)
                                          · exact absurd rfl c221
                                          · skip
                                            refine lv_aload_n hx hb dL_isWord_224 rfl (lv_at hl 5 rfl) ?_
                                            refine lv_iconst (v := 3) hx hb dL_isWord_225 (by decide) ?_
                                            refine lv_iload_n hx hb dL_isWord_226 rfl (lv_at hl 7 rfl) ?_
                                            refine lv_iload hx hb dL_isWord_227 (lv_at hl 3 rfl) ?_
                                            refine lv_iconst (v := 2) hx hb dL_isWord_229 (by decide) ?_
                                            refine lv_iadd hx hb dL_isWord_230 ?_
                                            refine gtop (y := 12) (by decide) ?_
                                            refine gciT (X := wX4 T Ad ta ca fa ga) (vx_runSW (As := [.ref (Ad 1), .int 3, .int (nI j), .int 12]) (rest := []) ⟨hx, hb, hml, hown, hts⟩ (cL_asks_3_noc l hl0 G T aK aV Ad AF D mny N f g rk rf rg rh j (nI j) 12 _ (by omega) (fun _ => ⟨rfl, hj16⟩) (fun h9 => absurd (h9.symm.trans (show kSign (N j) (nI j) 12 = 1 by rw [kSign, if_pos (show okI (nI j) 16 = true from okI_nat9 (n := 16) (by omega) (by omega) hj16), e0, e1, if_neg (nI_nm1 (by omega))]; decide)) (by decide))) (vx_cwSW 4 hts gL_isWord_L_asks rfl rfl rfl (by decide +kernel) ⟨Nat.le_of_ble_eq_true rfl, Nat.le_of_ble_eq_true rfl⟩) ⟨gblindW, gpreWT (X := wX4 T Ad ta ca fa ga) hWs hE hK hP hD hS hA⟩ rfl rfl hl.1 rfl (lv_room (Nat.le_of_ble_eq_true rfl)) dL_isWord_231 ⟨Nat.le_of_ble_eq_true rfl, Nat.le_of_ble_eq_true rfl⟩) hP hD hS hA wC_fst (fun r9 H locs hw hP hD hS => ?_)
                                            have hP : va_P G vwCl (wW T Ad AF ta ca fa ga D mny N f g rk rf rg rh) H := hP
                                            have hD : va_D (va_A (wW T Ad AF ta ca fa ga D mny N f g rk rf rg rh) s.heap.size) (wW T Ad AF ta ca fa ga D mny N f g rk rf rg rh) := hD
                                            subst hw
                                            refine gtop (y := (-30)) (wD_30 (show kSign (N j) (nI j) 12 = 1 by rw [kSign, if_pos (show okI (nI j) 16 = true from okI_nat9 (n := 16) (by omega) (by omega) hj16), e0, e1, if_neg (nI_nm1 (by omega))]; decide)) ?_
                                            refine lv_bipush (v := (-30)) hx hb dL_isWord_234 (by decide) ?_
                                            refine lv_icmp_ne (tgt := 243) hx hb dL_isWord_236 (by decide) (fun c236 => ?_) (fun c236 => ?_)
                                            · exact absurd c236 (by decide)
                                            · skip
                                              refine lv_iconst (v := 1) hx hb dL_isWord_239 (by decide) ?_
                                              refine lv_goto (tgt := 244) hx hb dL_isWord_240 (by decide) ?_
                                              exact W.zret (v := 1) hx hb hr (by decide) (fun t ht9 hW => ⟨⟨1, (), rfl, rfl, gBi ht9 (gfin hP (rfl))⟩, hS.F ht9⟩) hS.2.2 dL_isWord_244
                                        · exact absurd (nI_pos' (by omega)) c208
                                    · exact absurd (nI_pos' (by omega)) c183
                          · exact absurd c114 c24
                        · exact absurd c104 c39
                    · exact absurd c86 c39
                  · exact absurd c76 c24
                · exact absurd c66 c14
              · exact absurd c56 c29
          · skip
            refine lv_iconst (v := 5) hx hb dL_isWord_42 (by decide) ?_
            refine lv_goto (tgt := 48) hx hb dL_isWord_43 (by decide) ?_
            refine lv_istore (lv' := [(4, .int 5), (3, .int (N j 0)), (0, .ref (Ad 1)), (1, .ref (Ad 5)), (2, .int (nI j))]) hx hb dL_isWord_48 hl (by decide) rfl (fun ls hl => ?_)
            refine lv_iload_n hx hb dL_isWord_50 rfl (lv_at hl 1 rfl) ?_
            refine lv_if_eq (tgt := 59) hx hb dL_isWord_51 (by decide) (fun c51 => ?_) (fun c51 => ?_)
            · exact absurd c51 c5
            · skip
              refine lv_iload_n hx hb dL_isWord_54 rfl (lv_at hl 1 rfl) ?_
              refine lv_iconst (v := 5) hx hb dL_isWord_55 (by decide) ?_
              refine lv_icmp_ne (tgt := 64) hx hb dL_isWord_56 (by decide) (fun c56 => ?_) (fun c56 => ?_)
              · skip
                refine lv_iload_n hx hb dL_isWord_64 rfl (lv_at hl 1 rfl) ?_
                refine lv_iconst (v := 1) hx hb dL_isWord_65 (by decide) ?_
                refine lv_icmp_ne (tgt := 74) hx hb dL_isWord_66 (by decide) (fun c66 => ?_) (fun c66 => ?_)
                · skip
                  refine lv_iload_n hx hb dL_isWord_74 rfl (lv_at hl 1 rfl) ?_
                  refine lv_iconst (v := 2) hx hb dL_isWord_75 (by decide) ?_
                  refine lv_icmp_ne (tgt := 84) hx hb dL_isWord_76 (by decide) (fun c76 => ?_) (fun c76 => ?_)
                  · skip
                    refine lv_iload_n hx hb dL_isWord_84 rfl (lv_at hl 1 rfl) ?_
                    refine lv_iconst (v := 3) hx hb dL_isWord_85 (by decide) ?_
                    refine lv_icmp_ne (tgt := 94) hx hb dL_isWord_86 (by decide) (fun c86 => ?_) (fun c86 => ?_)
                    · exact absurd c39 c86
                    · skip
                      refine lv_bipush (v := 103) hx hb dL_isWord_89 (by decide) ?_
                      refine lv_goto (tgt := 96) hx hb dL_isWord_91 (by decide) ?_
                      refine lv_istore (lv' := [(5, .int 103), (4, .int 5), (3, .int (N j 0)), (0, .ref (Ad 1)), (1, .ref (Ad 5)), (2, .int (nI j))]) hx hb dL_isWord_96 hl (by decide) rfl (fun ls hl => ?_)
                      refine lv_iload_n hx hb dL_isWord_98 rfl (lv_at hl 2 rfl) ?_
                      refine lv_if_eq (tgt := 107) hx hb dL_isWord_99 (by decide) (fun c99 => ?_) (fun c99 => ?_)
                      · exact absurd c99 c5
                      · skip
                        refine lv_iload_n hx hb dL_isWord_102 rfl (lv_at hl 2 rfl) ?_
                        refine lv_iconst (v := 3) hx hb dL_isWord_103 (by decide) ?_
                        refine lv_icmp_ne (tgt := 112) hx hb dL_isWord_104 (by decide) (fun c104 => ?_) (fun c104 => ?_)
                        · exact absurd c39 c104
                        · skip
                          refine lv_bipush (v := 101) hx hb dL_isWord_107 (by decide) ?_
                          refine lv_goto (tgt := 124) hx hb dL_isWord_109 (by decide) ?_
                          refine lv_istore (lv' := [(6, .int 101), (5, .int 103), (4, .int 5), (3, .int (N j 0)), (0, .ref (Ad 1)), (1, .ref (Ad 5)), (2, .int (nI j))]) hx hb dL_isWord_124 hl (by decide) rfl (fun ls hl => ?_)
                          refine lv_aload_n hx hb dL_isWord_126 rfl (lv_at hl 5 rfl) ?_
                          refine lv_bipush (v := 16) hx hb dL_isWord_127 (by decide) ?_
                          refine lv_iload_n hx hb dL_isWord_129 rfl (lv_at hl 6 rfl) ?_
                          refine lv_iadd hx hb dL_isWord_130 ?_
                          refine gtop (y := nI (16 + j)) (nI_add 16 j) ?_
                          refine giald (j := (16 + j)) hx hb hK hP 0 0 rfl rfl (show (nI (16 + j) : Int32) = nI (16 + j) from rfl) (by omega) (by decide) dL_isWord_131 ?_
                          rcases n1.own with e1 | ⟨o, ho6, e1⟩
                          · skip
                            refine gtop (y := (-1)) (n2.2.1.trans e1) ?_
                            refine lv_istore (lv' := [(7, .int (-1)), (6, .int 101), (5, .int 103), (4, .int 5), (3, .int (N j 0)), (0, .ref (Ad 1)), (1, .ref (Ad 5)), (2, .int (nI j))]) hx hb dL_isWord_132 hl (by decide) rfl (fun ls hl => ?_)
                            refine lv_aload_n hx hb dL_isWord_134 rfl (lv_at hl 5 rfl) ?_
                            refine lv_iconst (v := 3) hx hb dL_isWord_135 (by decide) ?_
                            refine lv_iload_n hx hb dL_isWord_136 rfl (lv_at hl 7 rfl) ?_
                            refine lv_iconst (v := 0) hx hb dL_isWord_137 (by decide) ?_
                            refine gciT (X := wX4 T Ad ta ca fa ga) (vx_runSW (As := [.ref (Ad 1), .int 3, .int (nI j), .int 0]) (rest := []) ⟨hx, hb, hml, hown, hts⟩ (cL_asks_3_okc l hl0 G T aK aV Ad AF D mny N f g rk rf rg rh j 0 _ (by omega) (show kSign (N j) (nI j) 0 = 0 by rw [kSign, if_pos (show okI (nI j) 16 = true from okI_nat9 (n := 16) (by omega) (by omega) hj16), c39, e1]; decide)) (vx_cwSW 4 hts gL_isWord_L_asks rfl rfl rfl (by decide +kernel) ⟨Nat.le_of_ble_eq_true rfl, Nat.le_of_ble_eq_true rfl⟩) ⟨gblindW, gpreWT (X := wX4 T Ad ta ca fa ga) hWs hE hK hP hD hS hA⟩ rfl rfl hl.1 rfl (lv_room (Nat.le_of_ble_eq_true rfl)) dL_isWord_138 ⟨Nat.le_of_ble_eq_true rfl, Nat.le_of_ble_eq_true rfl⟩) hP hD hS hA wC_fst (fun r9 H locs hw hP hD hS => ?_)
                            have hP : va_P G vwCl (wW T Ad AF ta ca fa ga D mny N f g rk rf rg rh) H := hP
                            have hD : va_D (va_A (wW T Ad AF ta ca fa ga D mny N f g rk rf rg rh) s.heap.size) (wW T Ad AF ta ca fa ga D mny N f g rk rf rg rh) := hD
                            subst hw
                            refine gtop (y := 103) (by rw [sSign, c39, if_pos (by decide)]; decide) ?_
                            refine lv_iload hx hb dL_isWord_141 (lv_at hl 2 rfl) ?_
                            refine lv_icmp_ne (tgt := 243) hx hb dL_isWord_143 (by decide) (fun c143 => ?_) (fun c143 => ?_)
                            · exact absurd c143 (by decide)
                            · skip
                              refine lv_aload_n hx hb dL_isWord_146 rfl (lv_at hl 5 rfl) ?_
                              refine lv_iconst (v := 3) hx hb dL_isWord_147 (by decide) ?_
                              refine lv_iload_n hx hb dL_isWord_148 rfl (lv_at hl 7 rfl) ?_
                              refine lv_iload hx hb dL_isWord_149 (lv_at hl 3 rfl) ?_
                              refine lv_iconst (v := 1) hx hb dL_isWord_151 (by decide) ?_
                              refine lv_isub hx hb dL_isWord_152 ?_
                              refine gtop (y := 4) (by decide) ?_
                              refine gciT (X := wX4 T Ad ta ca fa ga) (vx_runSW (As := [.ref (Ad 1), .int 3, .int (nI j), .int 4]) (rest := []) ⟨hx, hb, hml, hown, hts⟩ (cL_asks_3_okc l hl0 G T aK aV Ad AF D mny N f g rk rf rg rh j 4 _ (by omega) (show kSign (N j) (nI j) 4 = 0 by rw [kSign, if_pos (show okI (nI j) 16 = true from okI_nat9 (n := 16) (by omega) (by omega) hj16), c39, e1]; decide)) (vx_cwSW 4 hts gL_isWord_L_asks rfl rfl rfl (by decide +kernel) ⟨Nat.le_of_ble_eq_true rfl, Nat.le_of_ble_eq_true rfl⟩) ⟨gblindW, gpreWT (X := wX4 T Ad ta ca fa ga) hWs hE hK hP hD hS hA⟩ rfl rfl hl.1 rfl (lv_room (Nat.le_of_ble_eq_true rfl)) dL_isWord_153 ⟨Nat.le_of_ble_eq_true rfl, Nat.le_of_ble_eq_true rfl⟩) hP hD hS hA wC_fst (fun r9 H locs hw hP hD hS => ?_)
                              have hP : va_P G vwCl (wW T Ad AF ta ca fa ga D mny N f g rk rf rg rh) H := hP
                              have hD : va_D (va_A (wW T Ad AF ta ca fa ga D mny N f g rk rf rg rh) s.heap.size) (wW T Ad AF ta ca fa ga D mny N f g rk rf rg rh) := hD
                              subst hw
                              refine gtop (y := 101) (by rw [sSign, c39, if_pos (by decide)]; decide) ?_
                              refine lv_iload hx hb dL_isWord_156 (lv_at hl 1 rfl) ?_
                              refine lv_icmp_ne (tgt := 243) hx hb dL_isWord_158 (by decide) (fun c158 => ?_) (fun c158 => ?_)
                              · exact absurd c158 (by decide)
                              · skip
                                refine lv_aload_n hx hb dL_isWord_161 rfl (lv_at hl 5 rfl) ?_
                                refine lv_iconst (v := 3) hx hb dL_isWord_162 (by decide) ?_
                                refine lv_iload_n hx hb dL_isWord_163 rfl (lv_at hl 7 rfl) ?_
                                refine lv_iconst (v := (-1)) hx hb dL_isWord_164 (by decide) ?_
                                refine gciT (X := wX4 T Ad ta ca fa ga) (vx_runSW (As := [.ref (Ad 1), .int 3, .int (nI j), .int (-1)]) (rest := []) ⟨hx, hb, hml, hown, hts⟩ (cL_asks_3_noc l hl0 G T aK aV Ad AF D mny N f g rk rf rg rh j (nI j) (-1) _ (by omega) (fun _ => ⟨rfl, hj16⟩) (fun h9 => absurd (h9.symm.trans (show kSign (N j) (nI j) (-1) = 1 by rw [kSign, if_pos (show okI (nI j) 16 = true from okI_nat9 (n := 16) (by omega) (by omega) hj16), c39, e1]; decide)) (by decide))) (vx_cwSW 4 hts gL_isWord_L_asks rfl rfl rfl (by decide +kernel) ⟨Nat.le_of_ble_eq_true rfl, Nat.le_of_ble_eq_true rfl⟩) ⟨gblindW, gpreWT (X := wX4 T Ad ta ca fa ga) hWs hE hK hP hD hS hA⟩ rfl rfl hl.1 rfl (lv_room (Nat.le_of_ble_eq_true rfl)) dL_isWord_165 ⟨Nat.le_of_ble_eq_true rfl, Nat.le_of_ble_eq_true rfl⟩) hP hD hS hA wC_fst (fun r9 H locs hw hP hD hS => ?_)
                                have hP : va_P G vwCl (wW T Ad AF ta ca fa ga D mny N f g rk rf rg rh) H := hP
                                have hD : va_D (va_A (wW T Ad AF ta ca fa ga D mny N f g rk rf rg rh) s.heap.size) (wW T Ad AF ta ca fa ga D mny N f g rk rf rg rh) := hD
                                subst hw
                                refine gtop (y := (-30)) (wD_30 (show kSign (N j) (nI j) (-1) = 1 by rw [kSign, if_pos (show okI (nI j) 16 = true from okI_nat9 (n := 16) (by omega) (by omega) hj16), c39, e1]; decide)) ?_
                                refine lv_bipush (v := (-30)) hx hb dL_isWord_168 (by decide) ?_
                                refine lv_icmp_ne (tgt := 243) hx hb dL_isWord_170 (by decide) (fun c170 => ?_) (fun c170 => ?_)
                                · exact absurd c170 (by decide)
                                · skip
                                  refine lv_aload_n hx hb dL_isWord_173 rfl (lv_at hl 5 rfl) ?_
                                  refine lv_iconst (v := 3) hx hb dL_isWord_174 (by decide) ?_
                                  refine lv_iload_n hx hb dL_isWord_175 rfl (lv_at hl 7 rfl) ?_
                                  refine lv_iload hx hb dL_isWord_176 (lv_at hl 3 rfl) ?_
                                  refine gciT (X := wX4 T Ad ta ca fa ga) (vx_runSW (As := [.ref (Ad 1), .int 3, .int (nI j), .int 5]) (rest := []) ⟨hx, hb, hml, hown, hts⟩ (cL_asks_3_noc l hl0 G T aK aV Ad AF D mny N f g rk rf rg rh j (nI j) 5 _ (by omega) (fun _ => ⟨rfl, hj16⟩) (fun h9 => absurd (h9.symm.trans (show kSign (N j) (nI j) 5 = 1 by rw [kSign, if_pos (show okI (nI j) 16 = true from okI_nat9 (n := 16) (by omega) (by omega) hj16), c39, e1]; decide)) (by decide))) (vx_cwSW 4 hts gL_isWord_L_asks rfl rfl rfl (by decide +kernel) ⟨Nat.le_of_ble_eq_true rfl, Nat.le_of_ble_eq_true rfl⟩) ⟨gblindW, gpreWT (X := wX4 T Ad ta ca fa ga) hWs hE hK hP hD hS hA⟩ rfl rfl hl.1 rfl (lv_room (Nat.le_of_ble_eq_true rfl)) dL_isWord_178 ⟨Nat.le_of_ble_eq_true rfl, Nat.le_of_ble_eq_true rfl⟩) hP hD hS hA wC_fst (fun r9 H locs hw hP hD hS => ?_)
                                  have hP : va_P G vwCl (wW T Ad AF ta ca fa ga D mny N f g rk rf rg rh) H := hP
                                  have hD : va_D (va_A (wW T Ad AF ta ca fa ga D mny N f g rk rf rg rh) s.heap.size) (wW T Ad AF ta ca fa ga D mny N f g rk rf rg rh) := hD
                                  subst hw
                                  refine gtop (y := (-30)) (wD_30 (show kSign (N j) (nI j) 5 = 1 by rw [kSign, if_pos (show okI (nI j) 16 = true from okI_nat9 (n := 16) (by omega) (by omega) hj16), c39, e1]; decide)) ?_
                                  refine lv_iload hx hb dL_isWord_181 (lv_at hl 0 rfl) ?_
                                  refine lv_if_ge (tgt := 191) hx hb dL_isWord_183 (by decide) (fun c183 => ?_) (fun c183 => ?_)
                                  · exact absurd c183 (by decide)
                                  · skip
                                    refine lv_bipush (v := (-30)) hx hb dL_isWord_186 (by decide) ?_
                                    refine lv_goto (tgt := 193) hx hb dL_isWord_188 (by decide) ?_
                                    refine lv_icmp_ne (tgt := 243) hx hb dL_isWord_193 (by decide) (fun c193 => ?_) (fun c193 => ?_)
                                    · exact absurd c193 (by decide)
                                    · skip
                                      refine lv_aload_n hx hb dL_isWord_196 rfl (lv_at hl 5 rfl) ?_
                                      refine lv_iconst (v := 3) hx hb dL_isWord_197 (by decide) ?_
                                      refine lv_iload_n hx hb dL_isWord_198 rfl (lv_at hl 7 rfl) ?_
                                      refine lv_iload hx hb dL_isWord_199 (lv_at hl 3 rfl) ?_
                                      refine lv_iconst (v := 1) hx hb dL_isWord_201 (by decide) ?_
                                      refine lv_iadd hx hb dL_isWord_202 ?_
                                      refine gtop (y := 6) (by decide) ?_
                                      refine gciT (X := wX4 T Ad ta ca fa ga) (vx_runSW (As := [.ref (Ad 1), .int 3, .int (nI j), .int 6]) (rest := []) ⟨hx, hb, hml, hown, hts⟩ (cL_asks_3_noc l hl0 G T aK aV Ad AF D mny N f g rk rf rg rh j (nI j) 6 _ (by omega) (fun _ => ⟨rfl, hj16⟩) (fun h9 => absurd (h9.symm.trans (show kSign (N j) (nI j) 6 = 1 by rw [kSign, if_pos (show okI (nI j) 16 = true from okI_nat9 (n := 16) (by omega) (by omega) hj16), c39, e1]; decide)) (by decide))) (vx_cwSW 4 hts gL_isWord_L_asks rfl rfl rfl (by decide +kernel) ⟨Nat.le_of_ble_eq_true rfl, Nat.le_of_ble_eq_true rfl⟩) ⟨gblindW, gpreWT (X := wX4 T Ad ta ca fa ga) hWs hE hK hP hD hS hA⟩ rfl rfl hl.1 rfl (lv_room (Nat.le_of_ble_eq_true rfl)) dL_isWord_203 ⟨Nat.le_of_ble_eq_true rfl, Nat.le_of_ble_eq_true rfl⟩) hP hD hS hA wC_fst (fun r9 H locs hw hP hD hS => ?_)
                                      have hP : va_P G vwCl (wW T Ad AF ta ca fa ga D mny N f g rk rf rg rh) H := hP
                                      have hD : va_D (va_A (wW T Ad AF ta ca fa ga D mny N f g rk rf rg rh) s.heap.size) (wW T Ad AF ta ca fa ga D mny N f g rk rf rg rh) := hD
                                      subst hw
                                      refine gtop (y := (-30)) (wD_30 (show kSign (N j) (nI j) 6 = 1 by rw [kSign, if_pos (show okI (nI j) 16 = true from okI_nat9 (n := 16) (by omega) (by omega) hj16), c39, e1]; decide)) ?_
                                      refine lv_iload hx hb dL_isWord_206 (lv_at hl 0 rfl) ?_
                                      refine lv_if_ge (tgt := 216) hx hb dL_isWord_208 (by decide) (fun c208 => ?_) (fun c208 => ?_)
                                      · exact absurd c208 (by decide)
                                      · skip
                                        refine lv_bipush (v := (-30)) hx hb dL_isWord_211 (by decide) ?_
                                        refine lv_goto (tgt := 221) hx hb dL_isWord_213 (by decide) ?_
                                        refine lv_icmp_ne (tgt := 243) hx hb dL_isWord_221 (by decide) (fun c221 => ?_) (fun c221 => ?_)
                                        · exact absurd c221 (by decide)
                                        · skip
                                          refine lv_aload_n hx hb dL_isWord_224 rfl (lv_at hl 5 rfl) ?_
                                          refine lv_iconst (v := 3) hx hb dL_isWord_225 (by decide) ?_
                                          refine lv_iload_n hx hb dL_isWord_226 rfl (lv_at hl 7 rfl) ?_
                                          refine lv_iload hx hb dL_isWord_227 (lv_at hl 3 rfl) ?_
                                          refine lv_iconst (v := 2) hx hb dL_isWord_229 (by decide) ?_
                                          refine lv_iadd hx hb dL_isWord_230 ?_
                                          refine gtop (y := 7) (by decide) ?_
                                          refine gciT (X := wX4 T Ad ta ca fa ga) (vx_runSW (As := [.ref (Ad 1), .int 3, .int (nI j), .int 7]) (rest := []) ⟨hx, hb, hml, hown, hts⟩ (cL_asks_3_noc l hl0 G T aK aV Ad AF D mny N f g rk rf rg rh j (nI j) 7 _ (by omega) (fun _ => ⟨rfl, hj16⟩) (fun h9 => absurd (h9.symm.trans (show kSign (N j) (nI j) 7 = 1 by rw [kSign, if_pos (show okI (nI j) 16 = true from okI_nat9 (n := 16) (by omega) (by omega) hj16), c39, e1]; decide)) (by decide))) (vx_cwSW 4 hts gL_isWord_L_asks rfl rfl rfl (by decide +kernel) ⟨Nat.le_of_ble_eq_true rfl, Nat.le_of_ble_eq_true rfl⟩) ⟨gblindW, gpreWT (X := wX4 T Ad ta ca fa ga) hWs hE hK hP hD hS hA⟩ rfl rfl hl.1 rfl (lv_room (Nat.le_of_ble_eq_true rfl)) dL_isWord_231 ⟨Nat.le_of_ble_eq_true rfl, Nat.le_of_ble_eq_true rfl⟩) hP hD hS hA wC_fst (fun r9 H locs hw hP hD hS => ?_)
                                          have hP : va_P G vwCl (wW T Ad AF ta ca fa ga D mny N f g rk rf rg rh) H := hP
                                          have hD : va_D (va_A (wW T Ad AF ta ca fa ga D mny N f g rk rf rg rh) s.heap.size) (wW T Ad AF ta ca fa ga D mny N f g rk rf rg rh) := hD
                                          subst hw
                                          refine gtop (y := (-30)) (wD_30 (show kSign (N j) (nI j) 7 = 1 by rw [kSign, if_pos (show okI (nI j) 16 = true from okI_nat9 (n := 16) (by omega) (by omega) hj16), c39, e1]; decide)) ?_
                                          refine lv_bipush (v := (-30)) hx hb dL_isWord_234 (by decide) ?_
                                          refine lv_icmp_ne (tgt := 243) hx hb dL_isWord_236 (by decide) (fun c236 => ?_) (fun c236 => ?_)
                                          · exact absurd c236 (by decide)
                                          · skip
                                            refine lv_iconst (v := 1) hx hb dL_isWord_239 (by decide) ?_
                                            refine lv_goto (tgt := 244) hx hb dL_isWord_240 (by decide) ?_
                                            exact W.zret (v := 1) hx hb hr (by decide) (fun t ht9 hW => ⟨⟨1, (), rfl, rfl, gBi ht9 (gfin hP (rfl))⟩, hS.F ht9⟩) hS.2.2 dL_isWord_244
                          · skip
                            refine gtop (y := nI o) (n2.2.1.trans e1) ?_
                            refine lv_istore (lv' := [(7, .int (nI o)), (6, .int 101), (5, .int 103), (4, .int 5), (3, .int (N j 0)), (0, .ref (Ad 1)), (1, .ref (Ad 5)), (2, .int (nI j))]) hx hb dL_isWord_132 hl (by decide) rfl (fun ls hl => ?_)
                            refine lv_aload_n hx hb dL_isWord_134 rfl (lv_at hl 5 rfl) ?_
                            refine lv_iconst (v := 3) hx hb dL_isWord_135 (by decide) ?_
                            refine lv_iload_n hx hb dL_isWord_136 rfl (lv_at hl 7 rfl) ?_
                            refine lv_iconst (v := 0) hx hb dL_isWord_137 (by decide) ?_
                            refine gciT (X := wX4 T Ad ta ca fa ga) (vx_runSW (As := [.ref (Ad 1), .int 3, .int (nI j), .int 0]) (rest := []) ⟨hx, hb, hml, hown, hts⟩ (cL_asks_3_okc l hl0 G T aK aV Ad AF D mny N f g rk rf rg rh j 0 _ (by omega) (show kSign (N j) (nI j) 0 = 0 by rw [kSign, if_pos (show okI (nI j) 16 = true from okI_nat9 (n := 16) (by omega) (by omega) hj16), c39, e1, if_neg (nI_nm1 (by omega))]; decide)) (vx_cwSW 4 hts gL_isWord_L_asks rfl rfl rfl (by decide +kernel) ⟨Nat.le_of_ble_eq_true rfl, Nat.le_of_ble_eq_true rfl⟩) ⟨gblindW, gpreWT (X := wX4 T Ad ta ca fa ga) hWs hE hK hP hD hS hA⟩ rfl rfl hl.1 rfl (lv_room (Nat.le_of_ble_eq_true rfl)) dL_isWord_138 ⟨Nat.le_of_ble_eq_true rfl, Nat.le_of_ble_eq_true rfl⟩) hP hD hS hA wC_fst (fun r9 H locs hw hP hD hS => ?_)
                            have hP : va_P G vwCl (wW T Ad AF ta ca fa ga D mny N f g rk rf rg rh) H := hP
                            have hD : va_D (va_A (wW T Ad AF ta ca fa ga D mny N f g rk rf rg rh) s.heap.size) (wW T Ad AF ta ca fa ga D mny N f g rk rf rg rh) := hD
                            subst hw
                            refine gtop (y := 103) (by rw [sSign, c39, if_pos (by decide)]; decide) ?_
                            refine lv_iload hx hb dL_isWord_141 (lv_at hl 2 rfl) ?_
                            refine lv_icmp_ne (tgt := 243) hx hb dL_isWord_143 (by decide) (fun c143 => ?_) (fun c143 => ?_)
                            · exact absurd c143 (by decide)
                            · skip
                              refine lv_aload_n hx hb dL_isWord_146 rfl (lv_at hl 5 rfl) ?_
                              refine lv_iconst (v := 3) hx hb dL_isWord_147 (by decide) ?_
                              refine lv_iload_n hx hb dL_isWord_148 rfl (lv_at hl 7 rfl) ?_
                              refine lv_iload hx hb dL_isWord_149 (lv_at hl 3 rfl) ?_
                              refine lv_iconst (v := 1) hx hb dL_isWord_151 (by decide) ?_
                              refine lv_isub hx hb dL_isWord_152 ?_
                              refine gtop (y := 4) (by decide) ?_
                              refine gciT (X := wX4 T Ad ta ca fa ga) (vx_runSW (As := [.ref (Ad 1), .int 3, .int (nI j), .int 4]) (rest := []) ⟨hx, hb, hml, hown, hts⟩ (cL_asks_3_okc l hl0 G T aK aV Ad AF D mny N f g rk rf rg rh j 4 _ (by omega) (show kSign (N j) (nI j) 4 = 0 by rw [kSign, if_pos (show okI (nI j) 16 = true from okI_nat9 (n := 16) (by omega) (by omega) hj16), c39, e1, if_neg (nI_nm1 (by omega))]; decide)) (vx_cwSW 4 hts gL_isWord_L_asks rfl rfl rfl (by decide +kernel) ⟨Nat.le_of_ble_eq_true rfl, Nat.le_of_ble_eq_true rfl⟩) ⟨gblindW, gpreWT (X := wX4 T Ad ta ca fa ga) hWs hE hK hP hD hS hA⟩ rfl rfl hl.1 rfl (lv_room (Nat.le_of_ble_eq_true rfl)) dL_isWord_153 ⟨Nat.le_of_ble_eq_true rfl, Nat.le_of_ble_eq_true rfl⟩) hP hD hS hA wC_fst (fun r9 H locs hw hP hD hS => ?_)
                              have hP : va_P G vwCl (wW T Ad AF ta ca fa ga D mny N f g rk rf rg rh) H := hP
                              have hD : va_D (va_A (wW T Ad AF ta ca fa ga D mny N f g rk rf rg rh) s.heap.size) (wW T Ad AF ta ca fa ga D mny N f g rk rf rg rh) := hD
                              subst hw
                              refine gtop (y := 101) (by rw [sSign, c39, if_pos (by decide)]; decide) ?_
                              refine lv_iload hx hb dL_isWord_156 (lv_at hl 1 rfl) ?_
                              refine lv_icmp_ne (tgt := 243) hx hb dL_isWord_158 (by decide) (fun c158 => ?_) (fun c158 => ?_)
                              · exact absurd c158 (by decide)
                              · skip
                                refine lv_aload_n hx hb dL_isWord_161 rfl (lv_at hl 5 rfl) ?_
                                refine lv_iconst (v := 3) hx hb dL_isWord_162 (by decide) ?_
                                refine lv_iload_n hx hb dL_isWord_163 rfl (lv_at hl 7 rfl) ?_
                                refine lv_iconst (v := (-1)) hx hb dL_isWord_164 (by decide) ?_
                                refine gciT (X := wX4 T Ad ta ca fa ga) (vx_runSW (As := [.ref (Ad 1), .int 3, .int (nI j), .int (-1)]) (rest := []) ⟨hx, hb, hml, hown, hts⟩ (cL_asks_3_noc l hl0 G T aK aV Ad AF D mny N f g rk rf rg rh j (nI j) (-1) _ (by omega) (fun _ => ⟨rfl, hj16⟩) (fun h9 => absurd (h9.symm.trans (show kSign (N j) (nI j) (-1) = 1 by rw [kSign, if_pos (show okI (nI j) 16 = true from okI_nat9 (n := 16) (by omega) (by omega) hj16), c39, e1, if_neg (nI_nm1 (by omega))]; decide)) (by decide))) (vx_cwSW 4 hts gL_isWord_L_asks rfl rfl rfl (by decide +kernel) ⟨Nat.le_of_ble_eq_true rfl, Nat.le_of_ble_eq_true rfl⟩) ⟨gblindW, gpreWT (X := wX4 T Ad ta ca fa ga) hWs hE hK hP hD hS hA⟩ rfl rfl hl.1 rfl (lv_room (Nat.le_of_ble_eq_true rfl)) dL_isWord_165 ⟨Nat.le_of_ble_eq_true rfl, Nat.le_of_ble_eq_true rfl⟩) hP hD hS hA wC_fst (fun r9 H locs hw hP hD hS => ?_)
                                have hP : va_P G vwCl (wW T Ad AF ta ca fa ga D mny N f g rk rf rg rh) H := hP
                                have hD : va_D (va_A (wW T Ad AF ta ca fa ga D mny N f g rk rf rg rh) s.heap.size) (wW T Ad AF ta ca fa ga D mny N f g rk rf rg rh) := hD
                                subst hw
                                refine gtop (y := (-30)) (wD_30 (show kSign (N j) (nI j) (-1) = 1 by rw [kSign, if_pos (show okI (nI j) 16 = true from okI_nat9 (n := 16) (by omega) (by omega) hj16), c39, e1, if_neg (nI_nm1 (by omega))]; decide)) ?_
                                refine lv_bipush (v := (-30)) hx hb dL_isWord_168 (by decide) ?_
                                refine lv_icmp_ne (tgt := 243) hx hb dL_isWord_170 (by decide) (fun c170 => ?_) (fun c170 => ?_)
                                · exact absurd c170 (by decide)
                                · skip
                                  refine lv_aload_n hx hb dL_isWord_173 rfl (lv_at hl 5 rfl) ?_
                                  refine lv_iconst (v := 3) hx hb dL_isWord_174 (by decide) ?_
                                  refine lv_iload_n hx hb dL_isWord_175 rfl (lv_at hl 7 rfl) ?_
                                  refine lv_iload hx hb dL_isWord_176 (lv_at hl 3 rfl) ?_
                                  refine gciT (X := wX4 T Ad ta ca fa ga) (vx_runSW (As := [.ref (Ad 1), .int 3, .int (nI j), .int 5]) (rest := []) ⟨hx, hb, hml, hown, hts⟩ (cL_asks_3_okc l hl0 G T aK aV Ad AF D mny N f g rk rf rg rh j 5 _ (by omega) (show kSign (N j) (nI j) 5 = 0 by rw [kSign, if_pos (show okI (nI j) 16 = true from okI_nat9 (n := 16) (by omega) (by omega) hj16), c39, e1, if_neg (nI_nm1 (by omega))]; decide)) (vx_cwSW 4 hts gL_isWord_L_asks rfl rfl rfl (by decide +kernel) ⟨Nat.le_of_ble_eq_true rfl, Nat.le_of_ble_eq_true rfl⟩) ⟨gblindW, gpreWT (X := wX4 T Ad ta ca fa ga) hWs hE hK hP hD hS hA⟩ rfl rfl hl.1 rfl (lv_room (Nat.le_of_ble_eq_true rfl)) dL_isWord_178 ⟨Nat.le_of_ble_eq_true rfl, Nat.le_of_ble_eq_true rfl⟩) hP hD hS hA wC_fst (fun r9 H locs hw hP hD hS => ?_)
                                  have hP : va_P G vwCl (wW T Ad AF ta ca fa ga D mny N f g rk rf rg rh) H := hP
                                  have hD : va_D (va_A (wW T Ad AF ta ca fa ga D mny N f g rk rf rg rh) s.heap.size) (wW T Ad AF ta ca fa ga D mny N f g rk rf rg rh) := hD
                                  subst hw
                                  refine gtop (y := 58) (by rw [sSign, c39, if_neg (by decide), if_neg (by decide)]) ?_
                                  refine lv_iload hx hb dL_isWord_181 (lv_at hl 0 rfl) ?_
                                  refine lv_if_ge (tgt := 191) hx hb dL_isWord_183 (by decide) (fun c183 => ?_) (fun c183 => ?_)
                                  · skip
                                    refine lv_bipush (v := 58) hx hb dL_isWord_191 (by decide) ?_
                                    refine lv_icmp_ne (tgt := 243) hx hb dL_isWord_193 (by decide) (fun c193 => ?_) (fun c193 => ?_)
                                    · exact absurd c193 (by decide)
                                    · skip
                                      refine lv_aload_n hx hb dL_isWord_196 rfl (lv_at hl 5 rfl) ?_
                                      refine lv_iconst (v := 3) hx hb dL_isWord_197 (by decide) ?_
                                      refine lv_iload_n hx hb dL_isWord_198 rfl (lv_at hl 7 rfl) ?_
                                      refine lv_iload hx hb dL_isWord_199 (lv_at hl 3 rfl) ?_
                                      refine lv_iconst (v := 1) hx hb dL_isWord_201 (by decide) ?_
                                      refine lv_iadd hx hb dL_isWord_202 ?_
                                      refine gtop (y := 6) (by decide) ?_
                                      refine gciT (X := wX4 T Ad ta ca fa ga) (vx_runSW (As := [.ref (Ad 1), .int 3, .int (nI j), .int 6]) (rest := []) ⟨hx, hb, hml, hown, hts⟩ (cL_asks_3_okc l hl0 G T aK aV Ad AF D mny N f g rk rf rg rh j 6 _ (by omega) (show kSign (N j) (nI j) 6 = 0 by rw [kSign, if_pos (show okI (nI j) 16 = true from okI_nat9 (n := 16) (by omega) (by omega) hj16), c39, e1, if_neg (nI_nm1 (by omega))]; decide)) (vx_cwSW 4 hts gL_isWord_L_asks rfl rfl rfl (by decide +kernel) ⟨Nat.le_of_ble_eq_true rfl, Nat.le_of_ble_eq_true rfl⟩) ⟨gblindW, gpreWT (X := wX4 T Ad ta ca fa ga) hWs hE hK hP hD hS hA⟩ rfl rfl hl.1 rfl (lv_room (Nat.le_of_ble_eq_true rfl)) dL_isWord_203 ⟨Nat.le_of_ble_eq_true rfl, Nat.le_of_ble_eq_true rfl⟩) hP hD hS hA wC_fst (fun r9 H locs hw hP hD hS => ?_)
                                      have hP : va_P G vwCl (wW T Ad AF ta ca fa ga D mny N f g rk rf rg rh) H := hP
                                      have hD : va_D (va_A (wW T Ad AF ta ca fa ga D mny N f g rk rf rg rh) s.heap.size) (wW T Ad AF ta ca fa ga D mny N f g rk rf rg rh) := hD
                                      subst hw
                                      refine gtop (y := nI (48 + o)) (by rw [sSign, c39, if_neg (by decide), if_pos (by decide), e1]; exact dig9 o ho6) ?_
                                      refine lv_iload hx hb dL_isWord_206 (lv_at hl 0 rfl) ?_
                                      refine lv_if_ge (tgt := 216) hx hb dL_isWord_208 (by decide) (fun c208 => ?_) (fun c208 => ?_)
                                      · skip
                                        refine lv_bipush (v := 48) hx hb dL_isWord_216 (by decide) ?_
                                        refine lv_iload hx hb dL_isWord_218 (lv_at hl 0 rfl) ?_
                                        refine lv_iadd hx hb dL_isWord_220 ?_
                                        refine gtop (y := nI (48 + o)) (nI_add 48 o) ?_
                                        refine lv_icmp_ne (tgt := 243) hx hb dL_isWord_221 (by decide) (fun c221 => ?_) (fun c221 => ?_)
                                        · exact absurd rfl c221
                                        · skip
                                          refine lv_aload_n hx hb dL_isWord_224 rfl (lv_at hl 5 rfl) ?_
                                          refine lv_iconst (v := 3) hx hb dL_isWord_225 (by decide) ?_
                                          refine lv_iload_n hx hb dL_isWord_226 rfl (lv_at hl 7 rfl) ?_
                                          refine lv_iload hx hb dL_isWord_227 (lv_at hl 3 rfl) ?_
                                          refine lv_iconst (v := 2) hx hb dL_isWord_229 (by decide) ?_
                                          refine lv_iadd hx hb dL_isWord_230 ?_
                                          refine gtop (y := 7) (by decide) ?_
                                          refine gciT (X := wX4 T Ad ta ca fa ga) (vx_runSW (As := [.ref (Ad 1), .int 3, .int (nI j), .int 7]) (rest := []) ⟨hx, hb, hml, hown, hts⟩ (cL_asks_3_noc l hl0 G T aK aV Ad AF D mny N f g rk rf rg rh j (nI j) 7 _ (by omega) (fun _ => ⟨rfl, hj16⟩) (fun h9 => absurd (h9.symm.trans (show kSign (N j) (nI j) 7 = 1 by rw [kSign, if_pos (show okI (nI j) 16 = true from okI_nat9 (n := 16) (by omega) (by omega) hj16), c39, e1, if_neg (nI_nm1 (by omega))]; decide)) (by decide))) (vx_cwSW 4 hts gL_isWord_L_asks rfl rfl rfl (by decide +kernel) ⟨Nat.le_of_ble_eq_true rfl, Nat.le_of_ble_eq_true rfl⟩) ⟨gblindW, gpreWT (X := wX4 T Ad ta ca fa ga) hWs hE hK hP hD hS hA⟩ rfl rfl hl.1 rfl (lv_room (Nat.le_of_ble_eq_true rfl)) dL_isWord_231 ⟨Nat.le_of_ble_eq_true rfl, Nat.le_of_ble_eq_true rfl⟩) hP hD hS hA wC_fst (fun r9 H locs hw hP hD hS => ?_)
                                          have hP : va_P G vwCl (wW T Ad AF ta ca fa ga D mny N f g rk rf rg rh) H := hP
                                          have hD : va_D (va_A (wW T Ad AF ta ca fa ga D mny N f g rk rf rg rh) s.heap.size) (wW T Ad AF ta ca fa ga D mny N f g rk rf rg rh) := hD
                                          subst hw
                                          refine gtop (y := (-30)) (wD_30 (show kSign (N j) (nI j) 7 = 1 by rw [kSign, if_pos (show okI (nI j) 16 = true from okI_nat9 (n := 16) (by omega) (by omega) hj16), c39, e1, if_neg (nI_nm1 (by omega))]; decide)) ?_
                                          refine lv_bipush (v := (-30)) hx hb dL_isWord_234 (by decide) ?_
                                          refine lv_icmp_ne (tgt := 243) hx hb dL_isWord_236 (by decide) (fun c236 => ?_) (fun c236 => ?_)
                                          · exact absurd c236 (by decide)
                                          · skip
                                            refine lv_iconst (v := 1) hx hb dL_isWord_239 (by decide) ?_
                                            refine lv_goto (tgt := 244) hx hb dL_isWord_240 (by decide) ?_
                                            exact W.zret (v := 1) hx hb hr (by decide) (fun t ht9 hW => ⟨⟨1, (), rfl, rfl, gBi ht9 (gfin hP (rfl))⟩, hS.F ht9⟩) hS.2.2 dL_isWord_244
                                      · exact absurd (nI_pos' (by omega)) c208
                                  · exact absurd (nI_pos' (by omega)) c183
                  · exact absurd c76 c24
                · exact absurd c66 c14
              · exact absurd c56 c29
        · skip
          refine lv_bipush (v := 6) hx hb dL_isWord_32 (by decide) ?_
          refine lv_goto (tgt := 48) hx hb dL_isWord_34 (by decide) ?_
          refine lv_istore (lv' := [(4, .int 6), (3, .int (N j 0)), (0, .ref (Ad 1)), (1, .ref (Ad 5)), (2, .int (nI j))]) hx hb dL_isWord_48 hl (by decide) rfl (fun ls hl => ?_)
          refine lv_iload_n hx hb dL_isWord_50 rfl (lv_at hl 1 rfl) ?_
          refine lv_if_eq (tgt := 59) hx hb dL_isWord_51 (by decide) (fun c51 => ?_) (fun c51 => ?_)
          · exact absurd c51 c5
          · skip
            refine lv_iload_n hx hb dL_isWord_54 rfl (lv_at hl 1 rfl) ?_
            refine lv_iconst (v := 5) hx hb dL_isWord_55 (by decide) ?_
            refine lv_icmp_ne (tgt := 64) hx hb dL_isWord_56 (by decide) (fun c56 => ?_) (fun c56 => ?_)
            · exact absurd c29 c56
            · skip
              refine lv_bipush (v := 102) hx hb dL_isWord_59 (by decide) ?_
              refine lv_goto (tgt := 96) hx hb dL_isWord_61 (by decide) ?_
              refine lv_istore (lv' := [(5, .int 102), (4, .int 6), (3, .int (N j 0)), (0, .ref (Ad 1)), (1, .ref (Ad 5)), (2, .int (nI j))]) hx hb dL_isWord_96 hl (by decide) rfl (fun ls hl => ?_)
              refine lv_iload_n hx hb dL_isWord_98 rfl (lv_at hl 2 rfl) ?_
              refine lv_if_eq (tgt := 107) hx hb dL_isWord_99 (by decide) (fun c99 => ?_) (fun c99 => ?_)
              · exact absurd c99 c5
              · skip
                refine lv_iload_n hx hb dL_isWord_102 rfl (lv_at hl 2 rfl) ?_
                refine lv_iconst (v := 3) hx hb dL_isWord_103 (by decide) ?_
                refine lv_icmp_ne (tgt := 112) hx hb dL_isWord_104 (by decide) (fun c104 => ?_) (fun c104 => ?_)
                · skip
                  refine lv_iload_n hx hb dL_isWord_112 rfl (lv_at hl 2 rfl) ?_
                  refine lv_iconst (v := 2) hx hb dL_isWord_113 (by decide) ?_
                  refine lv_icmp_ne (tgt := 122) hx hb dL_isWord_114 (by decide) (fun c114 => ?_) (fun c114 => ?_)
                  · skip
                    refine lv_bipush (v := 110) hx hb dL_isWord_122 (by decide) ?_
                    refine lv_istore (lv' := [(6, .int 110), (5, .int 102), (4, .int 6), (3, .int (N j 0)), (0, .ref (Ad 1)), (1, .ref (Ad 5)), (2, .int (nI j))]) hx hb dL_isWord_124 hl (by decide) rfl (fun ls hl => ?_)
                    refine lv_aload_n hx hb dL_isWord_126 rfl (lv_at hl 5 rfl) ?_
                    refine lv_bipush (v := 16) hx hb dL_isWord_127 (by decide) ?_
                    refine lv_iload_n hx hb dL_isWord_129 rfl (lv_at hl 6 rfl) ?_
                    refine lv_iadd hx hb dL_isWord_130 ?_
                    refine gtop (y := nI (16 + j)) (nI_add 16 j) ?_
                    refine giald (j := (16 + j)) hx hb hK hP 0 0 rfl rfl (show (nI (16 + j) : Int32) = nI (16 + j) from rfl) (by omega) (by decide) dL_isWord_131 ?_
                    rcases n1.own with e1 | ⟨o, ho6, e1⟩
                    · skip
                      refine gtop (y := (-1)) (n2.2.1.trans e1) ?_
                      refine lv_istore (lv' := [(7, .int (-1)), (6, .int 110), (5, .int 102), (4, .int 6), (3, .int (N j 0)), (0, .ref (Ad 1)), (1, .ref (Ad 5)), (2, .int (nI j))]) hx hb dL_isWord_132 hl (by decide) rfl (fun ls hl => ?_)
                      refine lv_aload_n hx hb dL_isWord_134 rfl (lv_at hl 5 rfl) ?_
                      refine lv_iconst (v := 3) hx hb dL_isWord_135 (by decide) ?_
                      refine lv_iload_n hx hb dL_isWord_136 rfl (lv_at hl 7 rfl) ?_
                      refine lv_iconst (v := 0) hx hb dL_isWord_137 (by decide) ?_
                      refine gciT (X := wX4 T Ad ta ca fa ga) (vx_runSW (As := [.ref (Ad 1), .int 3, .int (nI j), .int 0]) (rest := []) ⟨hx, hb, hml, hown, hts⟩ (cL_asks_3_okc l hl0 G T aK aV Ad AF D mny N f g rk rf rg rh j 0 _ (by omega) (show kSign (N j) (nI j) 0 = 0 by rw [kSign, if_pos (show okI (nI j) 16 = true from okI_nat9 (n := 16) (by omega) (by omega) hj16), c29, e1]; decide)) (vx_cwSW 4 hts gL_isWord_L_asks rfl rfl rfl (by decide +kernel) ⟨Nat.le_of_ble_eq_true rfl, Nat.le_of_ble_eq_true rfl⟩) ⟨gblindW, gpreWT (X := wX4 T Ad ta ca fa ga) hWs hE hK hP hD hS hA⟩ rfl rfl hl.1 rfl (lv_room (Nat.le_of_ble_eq_true rfl)) dL_isWord_138 ⟨Nat.le_of_ble_eq_true rfl, Nat.le_of_ble_eq_true rfl⟩) hP hD hS hA wC_fst (fun r9 H locs hw hP hD hS => ?_)
                      have hP : va_P G vwCl (wW T Ad AF ta ca fa ga D mny N f g rk rf rg rh) H := hP
                      have hD : va_D (va_A (wW T Ad AF ta ca fa ga D mny N f g rk rf rg rh) s.heap.size) (wW T Ad AF ta ca fa ga D mny N f g rk rf rg rh) := hD
                      subst hw
                      refine gtop (y := 102) (by rw [sSign, c29, if_pos (by decide)]; decide) ?_
                      refine lv_iload hx hb dL_isWord_141 (lv_at hl 2 rfl) ?_
                      refine lv_icmp_ne (tgt := 243) hx hb dL_isWord_143 (by decide) (fun c143 => ?_) (fun c143 => ?_)
                      · exact absurd c143 (by decide)
                      · skip
                        refine lv_aload_n hx hb dL_isWord_146 rfl (lv_at hl 5 rfl) ?_
                        refine lv_iconst (v := 3) hx hb dL_isWord_147 (by decide) ?_
                        refine lv_iload_n hx hb dL_isWord_148 rfl (lv_at hl 7 rfl) ?_
                        refine lv_iload hx hb dL_isWord_149 (lv_at hl 3 rfl) ?_
                        refine lv_iconst (v := 1) hx hb dL_isWord_151 (by decide) ?_
                        refine lv_isub hx hb dL_isWord_152 ?_
                        refine gtop (y := 5) (by decide) ?_
                        refine gciT (X := wX4 T Ad ta ca fa ga) (vx_runSW (As := [.ref (Ad 1), .int 3, .int (nI j), .int 5]) (rest := []) ⟨hx, hb, hml, hown, hts⟩ (cL_asks_3_okc l hl0 G T aK aV Ad AF D mny N f g rk rf rg rh j 5 _ (by omega) (show kSign (N j) (nI j) 5 = 0 by rw [kSign, if_pos (show okI (nI j) 16 = true from okI_nat9 (n := 16) (by omega) (by omega) hj16), c29, e1]; decide)) (vx_cwSW 4 hts gL_isWord_L_asks rfl rfl rfl (by decide +kernel) ⟨Nat.le_of_ble_eq_true rfl, Nat.le_of_ble_eq_true rfl⟩) ⟨gblindW, gpreWT (X := wX4 T Ad ta ca fa ga) hWs hE hK hP hD hS hA⟩ rfl rfl hl.1 rfl (lv_room (Nat.le_of_ble_eq_true rfl)) dL_isWord_153 ⟨Nat.le_of_ble_eq_true rfl, Nat.le_of_ble_eq_true rfl⟩) hP hD hS hA wC_fst (fun r9 H locs hw hP hD hS => ?_)
                        have hP : va_P G vwCl (wW T Ad AF ta ca fa ga D mny N f g rk rf rg rh) H := hP
                        have hD : va_D (va_A (wW T Ad AF ta ca fa ga D mny N f g rk rf rg rh) s.heap.size) (wW T Ad AF ta ca fa ga D mny N f g rk rf rg rh) := hD
                        subst hw
                        refine gtop (y := 110) (by rw [sSign, c29, if_pos (by decide)]; decide) ?_
                        refine lv_iload hx hb dL_isWord_156 (lv_at hl 1 rfl) ?_
                        refine lv_icmp_ne (tgt := 243) hx hb dL_isWord_158 (by decide) (fun c158 => ?_) (fun c158 => ?_)
                        · exact absurd c158 (by decide)
                        · skip
                          refine lv_aload_n hx hb dL_isWord_161 rfl (lv_at hl 5 rfl) ?_
                          refine lv_iconst (v := 3) hx hb dL_isWord_162 (by decide) ?_
                          refine lv_iload_n hx hb dL_isWord_163 rfl (lv_at hl 7 rfl) ?_
                          refine lv_iconst (v := (-1)) hx hb dL_isWord_164 (by decide) ?_
                          refine gciT (X := wX4 T Ad ta ca fa ga) (vx_runSW (As := [.ref (Ad 1), .int 3, .int (nI j), .int (-1)]) (rest := []) ⟨hx, hb, hml, hown, hts⟩ (cL_asks_3_noc l hl0 G T aK aV Ad AF D mny N f g rk rf rg rh j (nI j) (-1) _ (by omega) (fun _ => ⟨rfl, hj16⟩) (fun h9 => absurd (h9.symm.trans (show kSign (N j) (nI j) (-1) = 1 by rw [kSign, if_pos (show okI (nI j) 16 = true from okI_nat9 (n := 16) (by omega) (by omega) hj16), c29, e1]; decide)) (by decide))) (vx_cwSW 4 hts gL_isWord_L_asks rfl rfl rfl (by decide +kernel) ⟨Nat.le_of_ble_eq_true rfl, Nat.le_of_ble_eq_true rfl⟩) ⟨gblindW, gpreWT (X := wX4 T Ad ta ca fa ga) hWs hE hK hP hD hS hA⟩ rfl rfl hl.1 rfl (lv_room (Nat.le_of_ble_eq_true rfl)) dL_isWord_165 ⟨Nat.le_of_ble_eq_true rfl, Nat.le_of_ble_eq_true rfl⟩) hP hD hS hA wC_fst (fun r9 H locs hw hP hD hS => ?_)
                          have hP : va_P G vwCl (wW T Ad AF ta ca fa ga D mny N f g rk rf rg rh) H := hP
                          have hD : va_D (va_A (wW T Ad AF ta ca fa ga D mny N f g rk rf rg rh) s.heap.size) (wW T Ad AF ta ca fa ga D mny N f g rk rf rg rh) := hD
                          subst hw
                          refine gtop (y := (-30)) (wD_30 (show kSign (N j) (nI j) (-1) = 1 by rw [kSign, if_pos (show okI (nI j) 16 = true from okI_nat9 (n := 16) (by omega) (by omega) hj16), c29, e1]; decide)) ?_
                          refine lv_bipush (v := (-30)) hx hb dL_isWord_168 (by decide) ?_
                          refine lv_icmp_ne (tgt := 243) hx hb dL_isWord_170 (by decide) (fun c170 => ?_) (fun c170 => ?_)
                          · exact absurd c170 (by decide)
                          · skip
                            refine lv_aload_n hx hb dL_isWord_173 rfl (lv_at hl 5 rfl) ?_
                            refine lv_iconst (v := 3) hx hb dL_isWord_174 (by decide) ?_
                            refine lv_iload_n hx hb dL_isWord_175 rfl (lv_at hl 7 rfl) ?_
                            refine lv_iload hx hb dL_isWord_176 (lv_at hl 3 rfl) ?_
                            refine gciT (X := wX4 T Ad ta ca fa ga) (vx_runSW (As := [.ref (Ad 1), .int 3, .int (nI j), .int 6]) (rest := []) ⟨hx, hb, hml, hown, hts⟩ (cL_asks_3_noc l hl0 G T aK aV Ad AF D mny N f g rk rf rg rh j (nI j) 6 _ (by omega) (fun _ => ⟨rfl, hj16⟩) (fun h9 => absurd (h9.symm.trans (show kSign (N j) (nI j) 6 = 1 by rw [kSign, if_pos (show okI (nI j) 16 = true from okI_nat9 (n := 16) (by omega) (by omega) hj16), c29, e1]; decide)) (by decide))) (vx_cwSW 4 hts gL_isWord_L_asks rfl rfl rfl (by decide +kernel) ⟨Nat.le_of_ble_eq_true rfl, Nat.le_of_ble_eq_true rfl⟩) ⟨gblindW, gpreWT (X := wX4 T Ad ta ca fa ga) hWs hE hK hP hD hS hA⟩ rfl rfl hl.1 rfl (lv_room (Nat.le_of_ble_eq_true rfl)) dL_isWord_178 ⟨Nat.le_of_ble_eq_true rfl, Nat.le_of_ble_eq_true rfl⟩) hP hD hS hA wC_fst (fun r9 H locs hw hP hD hS => ?_)
                            have hP : va_P G vwCl (wW T Ad AF ta ca fa ga D mny N f g rk rf rg rh) H := hP
                            have hD : va_D (va_A (wW T Ad AF ta ca fa ga D mny N f g rk rf rg rh) s.heap.size) (wW T Ad AF ta ca fa ga D mny N f g rk rf rg rh) := hD
                            subst hw
                            refine gtop (y := (-30)) (wD_30 (show kSign (N j) (nI j) 6 = 1 by rw [kSign, if_pos (show okI (nI j) 16 = true from okI_nat9 (n := 16) (by omega) (by omega) hj16), c29, e1]; decide)) ?_
                            refine lv_iload hx hb dL_isWord_181 (lv_at hl 0 rfl) ?_
                            refine lv_if_ge (tgt := 191) hx hb dL_isWord_183 (by decide) (fun c183 => ?_) (fun c183 => ?_)
                            · exact absurd c183 (by decide)
                            · skip
                              refine lv_bipush (v := (-30)) hx hb dL_isWord_186 (by decide) ?_
                              refine lv_goto (tgt := 193) hx hb dL_isWord_188 (by decide) ?_
                              refine lv_icmp_ne (tgt := 243) hx hb dL_isWord_193 (by decide) (fun c193 => ?_) (fun c193 => ?_)
                              · exact absurd c193 (by decide)
                              · skip
                                refine lv_aload_n hx hb dL_isWord_196 rfl (lv_at hl 5 rfl) ?_
                                refine lv_iconst (v := 3) hx hb dL_isWord_197 (by decide) ?_
                                refine lv_iload_n hx hb dL_isWord_198 rfl (lv_at hl 7 rfl) ?_
                                refine lv_iload hx hb dL_isWord_199 (lv_at hl 3 rfl) ?_
                                refine lv_iconst (v := 1) hx hb dL_isWord_201 (by decide) ?_
                                refine lv_iadd hx hb dL_isWord_202 ?_
                                refine gtop (y := 7) (by decide) ?_
                                refine gciT (X := wX4 T Ad ta ca fa ga) (vx_runSW (As := [.ref (Ad 1), .int 3, .int (nI j), .int 7]) (rest := []) ⟨hx, hb, hml, hown, hts⟩ (cL_asks_3_noc l hl0 G T aK aV Ad AF D mny N f g rk rf rg rh j (nI j) 7 _ (by omega) (fun _ => ⟨rfl, hj16⟩) (fun h9 => absurd (h9.symm.trans (show kSign (N j) (nI j) 7 = 1 by rw [kSign, if_pos (show okI (nI j) 16 = true from okI_nat9 (n := 16) (by omega) (by omega) hj16), c29, e1]; decide)) (by decide))) (vx_cwSW 4 hts gL_isWord_L_asks rfl rfl rfl (by decide +kernel) ⟨Nat.le_of_ble_eq_true rfl, Nat.le_of_ble_eq_true rfl⟩) ⟨gblindW, gpreWT (X := wX4 T Ad ta ca fa ga) hWs hE hK hP hD hS hA⟩ rfl rfl hl.1 rfl (lv_room (Nat.le_of_ble_eq_true rfl)) dL_isWord_203 ⟨Nat.le_of_ble_eq_true rfl, Nat.le_of_ble_eq_true rfl⟩) hP hD hS hA wC_fst (fun r9 H locs hw hP hD hS => ?_)
                                have hP : va_P G vwCl (wW T Ad AF ta ca fa ga D mny N f g rk rf rg rh) H := hP
                                have hD : va_D (va_A (wW T Ad AF ta ca fa ga D mny N f g rk rf rg rh) s.heap.size) (wW T Ad AF ta ca fa ga D mny N f g rk rf rg rh) := hD
                                subst hw
                                refine gtop (y := (-30)) (wD_30 (show kSign (N j) (nI j) 7 = 1 by rw [kSign, if_pos (show okI (nI j) 16 = true from okI_nat9 (n := 16) (by omega) (by omega) hj16), c29, e1]; decide)) ?_
                                refine lv_iload hx hb dL_isWord_206 (lv_at hl 0 rfl) ?_
                                refine lv_if_ge (tgt := 216) hx hb dL_isWord_208 (by decide) (fun c208 => ?_) (fun c208 => ?_)
                                · exact absurd c208 (by decide)
                                · skip
                                  refine lv_bipush (v := (-30)) hx hb dL_isWord_211 (by decide) ?_
                                  refine lv_goto (tgt := 221) hx hb dL_isWord_213 (by decide) ?_
                                  refine lv_icmp_ne (tgt := 243) hx hb dL_isWord_221 (by decide) (fun c221 => ?_) (fun c221 => ?_)
                                  · exact absurd c221 (by decide)
                                  · skip
                                    refine lv_aload_n hx hb dL_isWord_224 rfl (lv_at hl 5 rfl) ?_
                                    refine lv_iconst (v := 3) hx hb dL_isWord_225 (by decide) ?_
                                    refine lv_iload_n hx hb dL_isWord_226 rfl (lv_at hl 7 rfl) ?_
                                    refine lv_iload hx hb dL_isWord_227 (lv_at hl 3 rfl) ?_
                                    refine lv_iconst (v := 2) hx hb dL_isWord_229 (by decide) ?_
                                    refine lv_iadd hx hb dL_isWord_230 ?_
                                    refine gtop (y := 8) (by decide) ?_
                                    refine gciT (X := wX4 T Ad ta ca fa ga) (vx_runSW (As := [.ref (Ad 1), .int 3, .int (nI j), .int 8]) (rest := []) ⟨hx, hb, hml, hown, hts⟩ (cL_asks_3_noc l hl0 G T aK aV Ad AF D mny N f g rk rf rg rh j (nI j) 8 _ (by omega) (fun _ => ⟨rfl, hj16⟩) (fun h9 => absurd (h9.symm.trans (show kSign (N j) (nI j) 8 = 1 by rw [kSign, if_pos (show okI (nI j) 16 = true from okI_nat9 (n := 16) (by omega) (by omega) hj16), c29, e1]; decide)) (by decide))) (vx_cwSW 4 hts gL_isWord_L_asks rfl rfl rfl (by decide +kernel) ⟨Nat.le_of_ble_eq_true rfl, Nat.le_of_ble_eq_true rfl⟩) ⟨gblindW, gpreWT (X := wX4 T Ad ta ca fa ga) hWs hE hK hP hD hS hA⟩ rfl rfl hl.1 rfl (lv_room (Nat.le_of_ble_eq_true rfl)) dL_isWord_231 ⟨Nat.le_of_ble_eq_true rfl, Nat.le_of_ble_eq_true rfl⟩) hP hD hS hA wC_fst (fun r9 H locs hw hP hD hS => ?_)
                                    have hP : va_P G vwCl (wW T Ad AF ta ca fa ga D mny N f g rk rf rg rh) H := hP
                                    have hD : va_D (va_A (wW T Ad AF ta ca fa ga D mny N f g rk rf rg rh) s.heap.size) (wW T Ad AF ta ca fa ga D mny N f g rk rf rg rh) := hD
                                    subst hw
                                    refine gtop (y := (-30)) (wD_30 (show kSign (N j) (nI j) 8 = 1 by rw [kSign, if_pos (show okI (nI j) 16 = true from okI_nat9 (n := 16) (by omega) (by omega) hj16), c29, e1]; decide)) ?_
                                    refine lv_bipush (v := (-30)) hx hb dL_isWord_234 (by decide) ?_
                                    refine lv_icmp_ne (tgt := 243) hx hb dL_isWord_236 (by decide) (fun c236 => ?_) (fun c236 => ?_)
                                    · exact absurd c236 (by decide)
                                    · skip
                                      refine lv_iconst (v := 1) hx hb dL_isWord_239 (by decide) ?_
                                      refine lv_goto (tgt := 244) hx hb dL_isWord_240 (by decide) ?_
                                      exact W.zret (v := 1) hx hb hr (by decide) (fun t ht9 hW => ⟨⟨1, (), rfl, rfl, gBi ht9 (gfin hP (rfl))⟩, hS.F ht9⟩) hS.2.2 dL_isWord_244
                    · skip
                      refine gtop (y := nI o) (n2.2.1.trans e1) ?_
                      refine lv_istore (lv' := [(7, .int (nI o)), (6, .int 110), (5, .int 102), (4, .int 6), (3, .int (N j 0)), (0, .ref (Ad 1)), (1, .ref (Ad 5)), (2, .int (nI j))]) hx hb dL_isWord_132 hl (by decide) rfl (fun ls hl => ?_)
                      refine lv_aload_n hx hb dL_isWord_134 rfl (lv_at hl 5 rfl) ?_
                      refine lv_iconst (v := 3) hx hb dL_isWord_135 (by decide) ?_
                      refine lv_iload_n hx hb dL_isWord_136 rfl (lv_at hl 7 rfl) ?_
                      refine lv_iconst (v := 0) hx hb dL_isWord_137 (by decide) ?_
                      refine gciT (X := wX4 T Ad ta ca fa ga) (vx_runSW (As := [.ref (Ad 1), .int 3, .int (nI j), .int 0]) (rest := []) ⟨hx, hb, hml, hown, hts⟩ (cL_asks_3_okc l hl0 G T aK aV Ad AF D mny N f g rk rf rg rh j 0 _ (by omega) (show kSign (N j) (nI j) 0 = 0 by rw [kSign, if_pos (show okI (nI j) 16 = true from okI_nat9 (n := 16) (by omega) (by omega) hj16), c29, e1, if_neg (nI_nm1 (by omega))]; decide)) (vx_cwSW 4 hts gL_isWord_L_asks rfl rfl rfl (by decide +kernel) ⟨Nat.le_of_ble_eq_true rfl, Nat.le_of_ble_eq_true rfl⟩) ⟨gblindW, gpreWT (X := wX4 T Ad ta ca fa ga) hWs hE hK hP hD hS hA⟩ rfl rfl hl.1 rfl (lv_room (Nat.le_of_ble_eq_true rfl)) dL_isWord_138 ⟨Nat.le_of_ble_eq_true rfl, Nat.le_of_ble_eq_true rfl⟩) hP hD hS hA wC_fst (fun r9 H locs hw hP hD hS => ?_)
                      have hP : va_P G vwCl (wW T Ad AF ta ca fa ga D mny N f g rk rf rg rh) H := hP
                      have hD : va_D (va_A (wW T Ad AF ta ca fa ga D mny N f g rk rf rg rh) s.heap.size) (wW T Ad AF ta ca fa ga D mny N f g rk rf rg rh) := hD
                      subst hw
                      refine gtop (y := 102) (by rw [sSign, c29, if_pos (by decide)]; decide) ?_
                      refine lv_iload hx hb dL_isWord_141 (lv_at hl 2 rfl) ?_
                      refine lv_icmp_ne (tgt := 243) hx hb dL_isWord_143 (by decide) (fun c143 => ?_) (fun c143 => ?_)
                      · exact absurd c143 (by decide)
                      · skip
                        refine lv_aload_n hx hb dL_isWord_146 rfl (lv_at hl 5 rfl) ?_
                        refine lv_iconst (v := 3) hx hb dL_isWord_147 (by decide) ?_
                        refine lv_iload_n hx hb dL_isWord_148 rfl (lv_at hl 7 rfl) ?_
                        refine lv_iload hx hb dL_isWord_149 (lv_at hl 3 rfl) ?_
                        refine lv_iconst (v := 1) hx hb dL_isWord_151 (by decide) ?_
                        refine lv_isub hx hb dL_isWord_152 ?_
                        refine gtop (y := 5) (by decide) ?_
                        refine gciT (X := wX4 T Ad ta ca fa ga) (vx_runSW (As := [.ref (Ad 1), .int 3, .int (nI j), .int 5]) (rest := []) ⟨hx, hb, hml, hown, hts⟩ (cL_asks_3_okc l hl0 G T aK aV Ad AF D mny N f g rk rf rg rh j 5 _ (by omega) (show kSign (N j) (nI j) 5 = 0 by rw [kSign, if_pos (show okI (nI j) 16 = true from okI_nat9 (n := 16) (by omega) (by omega) hj16), c29, e1, if_neg (nI_nm1 (by omega))]; decide)) (vx_cwSW 4 hts gL_isWord_L_asks rfl rfl rfl (by decide +kernel) ⟨Nat.le_of_ble_eq_true rfl, Nat.le_of_ble_eq_true rfl⟩) ⟨gblindW, gpreWT (X := wX4 T Ad ta ca fa ga) hWs hE hK hP hD hS hA⟩ rfl rfl hl.1 rfl (lv_room (Nat.le_of_ble_eq_true rfl)) dL_isWord_153 ⟨Nat.le_of_ble_eq_true rfl, Nat.le_of_ble_eq_true rfl⟩) hP hD hS hA wC_fst (fun r9 H locs hw hP hD hS => ?_)
                        have hP : va_P G vwCl (wW T Ad AF ta ca fa ga D mny N f g rk rf rg rh) H := hP
                        have hD : va_D (va_A (wW T Ad AF ta ca fa ga D mny N f g rk rf rg rh) s.heap.size) (wW T Ad AF ta ca fa ga D mny N f g rk rf rg rh) := hD
                        subst hw
                        refine gtop (y := 110) (by rw [sSign, c29, if_pos (by decide)]; decide) ?_
                        refine lv_iload hx hb dL_isWord_156 (lv_at hl 1 rfl) ?_
                        refine lv_icmp_ne (tgt := 243) hx hb dL_isWord_158 (by decide) (fun c158 => ?_) (fun c158 => ?_)
                        · exact absurd c158 (by decide)
                        · skip
                          refine lv_aload_n hx hb dL_isWord_161 rfl (lv_at hl 5 rfl) ?_
                          refine lv_iconst (v := 3) hx hb dL_isWord_162 (by decide) ?_
                          refine lv_iload_n hx hb dL_isWord_163 rfl (lv_at hl 7 rfl) ?_
                          refine lv_iconst (v := (-1)) hx hb dL_isWord_164 (by decide) ?_
                          refine gciT (X := wX4 T Ad ta ca fa ga) (vx_runSW (As := [.ref (Ad 1), .int 3, .int (nI j), .int (-1)]) (rest := []) ⟨hx, hb, hml, hown, hts⟩ (cL_asks_3_noc l hl0 G T aK aV Ad AF D mny N f g rk rf rg rh j (nI j) (-1) _ (by omega) (fun _ => ⟨rfl, hj16⟩) (fun h9 => absurd (h9.symm.trans (show kSign (N j) (nI j) (-1) = 1 by rw [kSign, if_pos (show okI (nI j) 16 = true from okI_nat9 (n := 16) (by omega) (by omega) hj16), c29, e1, if_neg (nI_nm1 (by omega))]; decide)) (by decide))) (vx_cwSW 4 hts gL_isWord_L_asks rfl rfl rfl (by decide +kernel) ⟨Nat.le_of_ble_eq_true rfl, Nat.le_of_ble_eq_true rfl⟩) ⟨gblindW, gpreWT (X := wX4 T Ad ta ca fa ga) hWs hE hK hP hD hS hA⟩ rfl rfl hl.1 rfl (lv_room (Nat.le_of_ble_eq_true rfl)) dL_isWord_165 ⟨Nat.le_of_ble_eq_true rfl, Nat.le_of_ble_eq_true rfl⟩) hP hD hS hA wC_fst (fun r9 H locs hw hP hD hS => ?_)
                          have hP : va_P G vwCl (wW T Ad AF ta ca fa ga D mny N f g rk rf rg rh) H := hP
                          have hD : va_D (va_A (wW T Ad AF ta ca fa ga D mny N f g rk rf rg rh) s.heap.size) (wW T Ad AF ta ca fa ga D mny N f g rk rf rg rh) := hD
                          subst hw
                          refine gtop (y := (-30)) (wD_30 (show kSign (N j) (nI j) (-1) = 1 by rw [kSign, if_pos (show okI (nI j) 16 = true from okI_nat9 (n := 16) (by omega) (by omega) hj16), c29, e1, if_neg (nI_nm1 (by omega))]; decide)) ?_
                          refine lv_bipush (v := (-30)) hx hb dL_isWord_168 (by decide) ?_
                          refine lv_icmp_ne (tgt := 243) hx hb dL_isWord_170 (by decide) (fun c170 => ?_) (fun c170 => ?_)
                          · exact absurd c170 (by decide)
                          · skip
                            refine lv_aload_n hx hb dL_isWord_173 rfl (lv_at hl 5 rfl) ?_
                            refine lv_iconst (v := 3) hx hb dL_isWord_174 (by decide) ?_
                            refine lv_iload_n hx hb dL_isWord_175 rfl (lv_at hl 7 rfl) ?_
                            refine lv_iload hx hb dL_isWord_176 (lv_at hl 3 rfl) ?_
                            refine gciT (X := wX4 T Ad ta ca fa ga) (vx_runSW (As := [.ref (Ad 1), .int 3, .int (nI j), .int 6]) (rest := []) ⟨hx, hb, hml, hown, hts⟩ (cL_asks_3_okc l hl0 G T aK aV Ad AF D mny N f g rk rf rg rh j 6 _ (by omega) (show kSign (N j) (nI j) 6 = 0 by rw [kSign, if_pos (show okI (nI j) 16 = true from okI_nat9 (n := 16) (by omega) (by omega) hj16), c29, e1, if_neg (nI_nm1 (by omega))]; decide)) (vx_cwSW 4 hts gL_isWord_L_asks rfl rfl rfl (by decide +kernel) ⟨Nat.le_of_ble_eq_true rfl, Nat.le_of_ble_eq_true rfl⟩) ⟨gblindW, gpreWT (X := wX4 T Ad ta ca fa ga) hWs hE hK hP hD hS hA⟩ rfl rfl hl.1 rfl (lv_room (Nat.le_of_ble_eq_true rfl)) dL_isWord_178 ⟨Nat.le_of_ble_eq_true rfl, Nat.le_of_ble_eq_true rfl⟩) hP hD hS hA wC_fst (fun r9 H locs hw hP hD hS => ?_)
                            have hP : va_P G vwCl (wW T Ad AF ta ca fa ga D mny N f g rk rf rg rh) H := hP
                            have hD : va_D (va_A (wW T Ad AF ta ca fa ga D mny N f g rk rf rg rh) s.heap.size) (wW T Ad AF ta ca fa ga D mny N f g rk rf rg rh) := hD
                            subst hw
                            refine gtop (y := 58) (by rw [sSign, c29, if_neg (by decide), if_neg (by decide)]) ?_
                            refine lv_iload hx hb dL_isWord_181 (lv_at hl 0 rfl) ?_
                            refine lv_if_ge (tgt := 191) hx hb dL_isWord_183 (by decide) (fun c183 => ?_) (fun c183 => ?_)
                            · skip
                              refine lv_bipush (v := 58) hx hb dL_isWord_191 (by decide) ?_
                              refine lv_icmp_ne (tgt := 243) hx hb dL_isWord_193 (by decide) (fun c193 => ?_) (fun c193 => ?_)
                              · exact absurd c193 (by decide)
                              · skip
                                refine lv_aload_n hx hb dL_isWord_196 rfl (lv_at hl 5 rfl) ?_
                                refine lv_iconst (v := 3) hx hb dL_isWord_197 (by decide) ?_
                                refine lv_iload_n hx hb dL_isWord_198 rfl (lv_at hl 7 rfl) ?_
                                refine lv_iload hx hb dL_isWord_199 (lv_at hl 3 rfl) ?_
                                refine lv_iconst (v := 1) hx hb dL_isWord_201 (by decide) ?_
                                refine lv_iadd hx hb dL_isWord_202 ?_
                                refine gtop (y := 7) (by decide) ?_
                                refine gciT (X := wX4 T Ad ta ca fa ga) (vx_runSW (As := [.ref (Ad 1), .int 3, .int (nI j), .int 7]) (rest := []) ⟨hx, hb, hml, hown, hts⟩ (cL_asks_3_okc l hl0 G T aK aV Ad AF D mny N f g rk rf rg rh j 7 _ (by omega) (show kSign (N j) (nI j) 7 = 0 by rw [kSign, if_pos (show okI (nI j) 16 = true from okI_nat9 (n := 16) (by omega) (by omega) hj16), c29, e1, if_neg (nI_nm1 (by omega))]; decide)) (vx_cwSW 4 hts gL_isWord_L_asks rfl rfl rfl (by decide +kernel) ⟨Nat.le_of_ble_eq_true rfl, Nat.le_of_ble_eq_true rfl⟩) ⟨gblindW, gpreWT (X := wX4 T Ad ta ca fa ga) hWs hE hK hP hD hS hA⟩ rfl rfl hl.1 rfl (lv_room (Nat.le_of_ble_eq_true rfl)) dL_isWord_203 ⟨Nat.le_of_ble_eq_true rfl, Nat.le_of_ble_eq_true rfl⟩) hP hD hS hA wC_fst (fun r9 H locs hw hP hD hS => ?_)
                                have hP : va_P G vwCl (wW T Ad AF ta ca fa ga D mny N f g rk rf rg rh) H := hP
                                have hD : va_D (va_A (wW T Ad AF ta ca fa ga D mny N f g rk rf rg rh) s.heap.size) (wW T Ad AF ta ca fa ga D mny N f g rk rf rg rh) := hD
                                subst hw
                                refine gtop (y := nI (48 + o)) (by rw [sSign, c29, if_neg (by decide), if_pos (by decide), e1]; exact dig9 o ho6) ?_
                                refine lv_iload hx hb dL_isWord_206 (lv_at hl 0 rfl) ?_
                                refine lv_if_ge (tgt := 216) hx hb dL_isWord_208 (by decide) (fun c208 => ?_) (fun c208 => ?_)
                                · skip
                                  refine lv_bipush (v := 48) hx hb dL_isWord_216 (by decide) ?_
                                  refine lv_iload hx hb dL_isWord_218 (lv_at hl 0 rfl) ?_
                                  refine lv_iadd hx hb dL_isWord_220 ?_
                                  refine gtop (y := nI (48 + o)) (nI_add 48 o) ?_
                                  refine lv_icmp_ne (tgt := 243) hx hb dL_isWord_221 (by decide) (fun c221 => ?_) (fun c221 => ?_)
                                  · exact absurd rfl c221
                                  · skip
                                    refine lv_aload_n hx hb dL_isWord_224 rfl (lv_at hl 5 rfl) ?_
                                    refine lv_iconst (v := 3) hx hb dL_isWord_225 (by decide) ?_
                                    refine lv_iload_n hx hb dL_isWord_226 rfl (lv_at hl 7 rfl) ?_
                                    refine lv_iload hx hb dL_isWord_227 (lv_at hl 3 rfl) ?_
                                    refine lv_iconst (v := 2) hx hb dL_isWord_229 (by decide) ?_
                                    refine lv_iadd hx hb dL_isWord_230 ?_
                                    refine gtop (y := 8) (by decide) ?_
                                    refine gciT (X := wX4 T Ad ta ca fa ga) (vx_runSW (As := [.ref (Ad 1), .int 3, .int (nI j), .int 8]) (rest := []) ⟨hx, hb, hml, hown, hts⟩ (cL_asks_3_noc l hl0 G T aK aV Ad AF D mny N f g rk rf rg rh j (nI j) 8 _ (by omega) (fun _ => ⟨rfl, hj16⟩) (fun h9 => absurd (h9.symm.trans (show kSign (N j) (nI j) 8 = 1 by rw [kSign, if_pos (show okI (nI j) 16 = true from okI_nat9 (n := 16) (by omega) (by omega) hj16), c29, e1, if_neg (nI_nm1 (by omega))]; decide)) (by decide))) (vx_cwSW 4 hts gL_isWord_L_asks rfl rfl rfl (by decide +kernel) ⟨Nat.le_of_ble_eq_true rfl, Nat.le_of_ble_eq_true rfl⟩) ⟨gblindW, gpreWT (X := wX4 T Ad ta ca fa ga) hWs hE hK hP hD hS hA⟩ rfl rfl hl.1 rfl (lv_room (Nat.le_of_ble_eq_true rfl)) dL_isWord_231 ⟨Nat.le_of_ble_eq_true rfl, Nat.le_of_ble_eq_true rfl⟩) hP hD hS hA wC_fst (fun r9 H locs hw hP hD hS => ?_)
                                    have hP : va_P G vwCl (wW T Ad AF ta ca fa ga D mny N f g rk rf rg rh) H := hP
                                    have hD : va_D (va_A (wW T Ad AF ta ca fa ga D mny N f g rk rf rg rh) s.heap.size) (wW T Ad AF ta ca fa ga D mny N f g rk rf rg rh) := hD
                                    subst hw
                                    refine gtop (y := (-30)) (wD_30 (show kSign (N j) (nI j) 8 = 1 by rw [kSign, if_pos (show okI (nI j) 16 = true from okI_nat9 (n := 16) (by omega) (by omega) hj16), c29, e1, if_neg (nI_nm1 (by omega))]; decide)) ?_
                                    refine lv_bipush (v := (-30)) hx hb dL_isWord_234 (by decide) ?_
                                    refine lv_icmp_ne (tgt := 243) hx hb dL_isWord_236 (by decide) (fun c236 => ?_) (fun c236 => ?_)
                                    · exact absurd c236 (by decide)
                                    · skip
                                      refine lv_iconst (v := 1) hx hb dL_isWord_239 (by decide) ?_
                                      refine lv_goto (tgt := 244) hx hb dL_isWord_240 (by decide) ?_
                                      exact W.zret (v := 1) hx hb hr (by decide) (fun t ht9 hW => ⟨⟨1, (), rfl, rfl, gBi ht9 (gfin hP (rfl))⟩, hS.F ht9⟩) hS.2.2 dL_isWord_244
                                · exact absurd (nI_pos' (by omega)) c208
                            · exact absurd (nI_pos' (by omega)) c183
                  · exact absurd c114 c24
                · exact absurd (c29.symm.trans c104) (by decide)
    · skip
      refine lv_bipush (v := 7) hx hb dL_isWord_17 (by decide) ?_
      refine lv_goto (tgt := 48) hx hb dL_isWord_19 (by decide) ?_
      refine lv_istore (lv' := [(4, .int 7), (3, .int (N j 0)), (0, .ref (Ad 1)), (1, .ref (Ad 5)), (2, .int (nI j))]) hx hb dL_isWord_48 hl (by decide) rfl (fun ls hl => ?_)
      refine lv_iload_n hx hb dL_isWord_50 rfl (lv_at hl 1 rfl) ?_
      refine lv_if_eq (tgt := 59) hx hb dL_isWord_51 (by decide) (fun c51 => ?_) (fun c51 => ?_)
      · exact absurd c51 c5
      · skip
        refine lv_iload_n hx hb dL_isWord_54 rfl (lv_at hl 1 rfl) ?_
        refine lv_iconst (v := 5) hx hb dL_isWord_55 (by decide) ?_
        refine lv_icmp_ne (tgt := 64) hx hb dL_isWord_56 (by decide) (fun c56 => ?_) (fun c56 => ?_)
        · skip
          refine lv_iload_n hx hb dL_isWord_64 rfl (lv_at hl 1 rfl) ?_
          refine lv_iconst (v := 1) hx hb dL_isWord_65 (by decide) ?_
          refine lv_icmp_ne (tgt := 74) hx hb dL_isWord_66 (by decide) (fun c66 => ?_) (fun c66 => ?_)
          · exact absurd c14 c66
          · skip
            refine lv_bipush (v := 97) hx hb dL_isWord_69 (by decide) ?_
            refine lv_goto (tgt := 96) hx hb dL_isWord_71 (by decide) ?_
            refine lv_istore (lv' := [(5, .int 97), (4, .int 7), (3, .int (N j 0)), (0, .ref (Ad 1)), (1, .ref (Ad 5)), (2, .int (nI j))]) hx hb dL_isWord_96 hl (by decide) rfl (fun ls hl => ?_)
            refine lv_iload_n hx hb dL_isWord_98 rfl (lv_at hl 2 rfl) ?_
            refine lv_if_eq (tgt := 107) hx hb dL_isWord_99 (by decide) (fun c99 => ?_) (fun c99 => ?_)
            · exact absurd c99 c5
            · skip
              refine lv_iload_n hx hb dL_isWord_102 rfl (lv_at hl 2 rfl) ?_
              refine lv_iconst (v := 3) hx hb dL_isWord_103 (by decide) ?_
              refine lv_icmp_ne (tgt := 112) hx hb dL_isWord_104 (by decide) (fun c104 => ?_) (fun c104 => ?_)
              · skip
                refine lv_iload_n hx hb dL_isWord_112 rfl (lv_at hl 2 rfl) ?_
                refine lv_iconst (v := 2) hx hb dL_isWord_113 (by decide) ?_
                refine lv_icmp_ne (tgt := 122) hx hb dL_isWord_114 (by decide) (fun c114 => ?_) (fun c114 => ?_)
                · skip
                  refine lv_bipush (v := 110) hx hb dL_isWord_122 (by decide) ?_
                  refine lv_istore (lv' := [(6, .int 110), (5, .int 97), (4, .int 7), (3, .int (N j 0)), (0, .ref (Ad 1)), (1, .ref (Ad 5)), (2, .int (nI j))]) hx hb dL_isWord_124 hl (by decide) rfl (fun ls hl => ?_)
                  refine lv_aload_n hx hb dL_isWord_126 rfl (lv_at hl 5 rfl) ?_
                  refine lv_bipush (v := 16) hx hb dL_isWord_127 (by decide) ?_
                  refine lv_iload_n hx hb dL_isWord_129 rfl (lv_at hl 6 rfl) ?_
                  refine lv_iadd hx hb dL_isWord_130 ?_
                  refine gtop (y := nI (16 + j)) (nI_add 16 j) ?_
                  refine giald (j := (16 + j)) hx hb hK hP 0 0 rfl rfl (show (nI (16 + j) : Int32) = nI (16 + j) from rfl) (by omega) (by decide) dL_isWord_131 ?_
                  rcases n1.own with e1 | ⟨o, ho6, e1⟩
                  · skip
                    refine gtop (y := (-1)) (n2.2.1.trans e1) ?_
                    refine lv_istore (lv' := [(7, .int (-1)), (6, .int 110), (5, .int 97), (4, .int 7), (3, .int (N j 0)), (0, .ref (Ad 1)), (1, .ref (Ad 5)), (2, .int (nI j))]) hx hb dL_isWord_132 hl (by decide) rfl (fun ls hl => ?_)
                    refine lv_aload_n hx hb dL_isWord_134 rfl (lv_at hl 5 rfl) ?_
                    refine lv_iconst (v := 3) hx hb dL_isWord_135 (by decide) ?_
                    refine lv_iload_n hx hb dL_isWord_136 rfl (lv_at hl 7 rfl) ?_
                    refine lv_iconst (v := 0) hx hb dL_isWord_137 (by decide) ?_
                    refine gciT (X := wX4 T Ad ta ca fa ga) (vx_runSW (As := [.ref (Ad 1), .int 3, .int (nI j), .int 0]) (rest := []) ⟨hx, hb, hml, hown, hts⟩ (cL_asks_3_okc l hl0 G T aK aV Ad AF D mny N f g rk rf rg rh j 0 _ (by omega) (show kSign (N j) (nI j) 0 = 0 by rw [kSign, if_pos (show okI (nI j) 16 = true from okI_nat9 (n := 16) (by omega) (by omega) hj16), c14, e1]; decide)) (vx_cwSW 4 hts gL_isWord_L_asks rfl rfl rfl (by decide +kernel) ⟨Nat.le_of_ble_eq_true rfl, Nat.le_of_ble_eq_true rfl⟩) ⟨gblindW, gpreWT (X := wX4 T Ad ta ca fa ga) hWs hE hK hP hD hS hA⟩ rfl rfl hl.1 rfl (lv_room (Nat.le_of_ble_eq_true rfl)) dL_isWord_138 ⟨Nat.le_of_ble_eq_true rfl, Nat.le_of_ble_eq_true rfl⟩) hP hD hS hA wC_fst (fun r9 H locs hw hP hD hS => ?_)
                    have hP : va_P G vwCl (wW T Ad AF ta ca fa ga D mny N f g rk rf rg rh) H := hP
                    have hD : va_D (va_A (wW T Ad AF ta ca fa ga D mny N f g rk rf rg rh) s.heap.size) (wW T Ad AF ta ca fa ga D mny N f g rk rf rg rh) := hD
                    subst hw
                    refine gtop (y := 97) (by rw [sSign, c14, if_pos (by decide)]; decide) ?_
                    refine lv_iload hx hb dL_isWord_141 (lv_at hl 2 rfl) ?_
                    refine lv_icmp_ne (tgt := 243) hx hb dL_isWord_143 (by decide) (fun c143 => ?_) (fun c143 => ?_)
                    · exact absurd c143 (by decide)
                    · skip
                      refine lv_aload_n hx hb dL_isWord_146 rfl (lv_at hl 5 rfl) ?_
                      refine lv_iconst (v := 3) hx hb dL_isWord_147 (by decide) ?_
                      refine lv_iload_n hx hb dL_isWord_148 rfl (lv_at hl 7 rfl) ?_
                      refine lv_iload hx hb dL_isWord_149 (lv_at hl 3 rfl) ?_
                      refine lv_iconst (v := 1) hx hb dL_isWord_151 (by decide) ?_
                      refine lv_isub hx hb dL_isWord_152 ?_
                      refine gtop (y := 6) (by decide) ?_
                      refine gciT (X := wX4 T Ad ta ca fa ga) (vx_runSW (As := [.ref (Ad 1), .int 3, .int (nI j), .int 6]) (rest := []) ⟨hx, hb, hml, hown, hts⟩ (cL_asks_3_okc l hl0 G T aK aV Ad AF D mny N f g rk rf rg rh j 6 _ (by omega) (show kSign (N j) (nI j) 6 = 0 by rw [kSign, if_pos (show okI (nI j) 16 = true from okI_nat9 (n := 16) (by omega) (by omega) hj16), c14, e1]; decide)) (vx_cwSW 4 hts gL_isWord_L_asks rfl rfl rfl (by decide +kernel) ⟨Nat.le_of_ble_eq_true rfl, Nat.le_of_ble_eq_true rfl⟩) ⟨gblindW, gpreWT (X := wX4 T Ad ta ca fa ga) hWs hE hK hP hD hS hA⟩ rfl rfl hl.1 rfl (lv_room (Nat.le_of_ble_eq_true rfl)) dL_isWord_153 ⟨Nat.le_of_ble_eq_true rfl, Nat.le_of_ble_eq_true rfl⟩) hP hD hS hA wC_fst (fun r9 H locs hw hP hD hS => ?_)
                      have hP : va_P G vwCl (wW T Ad AF ta ca fa ga D mny N f g rk rf rg rh) H := hP
                      have hD : va_D (va_A (wW T Ad AF ta ca fa ga D mny N f g rk rf rg rh) s.heap.size) (wW T Ad AF ta ca fa ga D mny N f g rk rf rg rh) := hD
                      subst hw
                      refine gtop (y := 110) (by rw [sSign, c14, if_pos (by decide)]; decide) ?_
                      refine lv_iload hx hb dL_isWord_156 (lv_at hl 1 rfl) ?_
                      refine lv_icmp_ne (tgt := 243) hx hb dL_isWord_158 (by decide) (fun c158 => ?_) (fun c158 => ?_)
                      · exact absurd c158 (by decide)
                      · skip
                        refine lv_aload_n hx hb dL_isWord_161 rfl (lv_at hl 5 rfl) ?_
                        refine lv_iconst (v := 3) hx hb dL_isWord_162 (by decide) ?_
                        refine lv_iload_n hx hb dL_isWord_163 rfl (lv_at hl 7 rfl) ?_
                        refine lv_iconst (v := (-1)) hx hb dL_isWord_164 (by decide) ?_
                        refine gciT (X := wX4 T Ad ta ca fa ga) (vx_runSW (As := [.ref (Ad 1), .int 3, .int (nI j), .int (-1)]) (rest := []) ⟨hx, hb, hml, hown, hts⟩ (cL_asks_3_noc l hl0 G T aK aV Ad AF D mny N f g rk rf rg rh j (nI j) (-1) _ (by omega) (fun _ => ⟨rfl, hj16⟩) (fun h9 => absurd (h9.symm.trans (show kSign (N j) (nI j) (-1) = 1 by rw [kSign, if_pos (show okI (nI j) 16 = true from okI_nat9 (n := 16) (by omega) (by omega) hj16), c14, e1]; decide)) (by decide))) (vx_cwSW 4 hts gL_isWord_L_asks rfl rfl rfl (by decide +kernel) ⟨Nat.le_of_ble_eq_true rfl, Nat.le_of_ble_eq_true rfl⟩) ⟨gblindW, gpreWT (X := wX4 T Ad ta ca fa ga) hWs hE hK hP hD hS hA⟩ rfl rfl hl.1 rfl (lv_room (Nat.le_of_ble_eq_true rfl)) dL_isWord_165 ⟨Nat.le_of_ble_eq_true rfl, Nat.le_of_ble_eq_true rfl⟩) hP hD hS hA wC_fst (fun r9 H locs hw hP hD hS => ?_)
                        have hP : va_P G vwCl (wW T Ad AF ta ca fa ga D mny N f g rk rf rg rh) H := hP
                        have hD : va_D (va_A (wW T Ad AF ta ca fa ga D mny N f g rk rf rg rh) s.heap.size) (wW T Ad AF ta ca fa ga D mny N f g rk rf rg rh) := hD
                        subst hw
                        refine gtop (y := (-30)) (wD_30 (show kSign (N j) (nI j) (-1) = 1 by rw [kSign, if_pos (show okI (nI j) 16 = true from okI_nat9 (n := 16) (by omega) (by omega) hj16), c14, e1]; decide)) ?_
                        refine lv_bipush (v := (-30)) hx hb dL_isWord_168 (by decide) ?_
                        refine lv_icmp_ne (tgt := 243) hx hb dL_isWord_170 (by decide) (fun c170 => ?_) (fun c170 => ?_)
                        · exact absurd c170 (by decide)
                        · skip
                          refine lv_aload_n hx hb dL_isWord_173 rfl (lv_at hl 5 rfl) ?_
                          refine lv_iconst (v := 3) hx hb dL_isWord_174 (by decide) ?_
                          refine lv_iload_n hx hb dL_isWord_175 rfl (lv_at hl 7 rfl) ?_
                          refine lv_iload hx hb dL_isWord_176 (lv_at hl 3 rfl) ?_
                          refine gciT (X := wX4 T Ad ta ca fa ga) (vx_runSW (As := [.ref (Ad 1), .int 3, .int (nI j), .int 7]) (rest := []) ⟨hx, hb, hml, hown, hts⟩ (cL_asks_3_noc l hl0 G T aK aV Ad AF D mny N f g rk rf rg rh j (nI j) 7 _ (by omega) (fun _ => ⟨rfl, hj16⟩) (fun h9 => absurd (h9.symm.trans (show kSign (N j) (nI j) 7 = 1 by rw [kSign, if_pos (show okI (nI j) 16 = true from okI_nat9 (n := 16) (by omega) (by omega) hj16), c14, e1]; decide)) (by decide))) (vx_cwSW 4 hts gL_isWord_L_asks rfl rfl rfl (by decide +kernel) ⟨Nat.le_of_ble_eq_true rfl, Nat.le_of_ble_eq_true rfl⟩) ⟨gblindW, gpreWT (X := wX4 T Ad ta ca fa ga) hWs hE hK hP hD hS hA⟩ rfl rfl hl.1 rfl (lv_room (Nat.le_of_ble_eq_true rfl)) dL_isWord_178 ⟨Nat.le_of_ble_eq_true rfl, Nat.le_of_ble_eq_true rfl⟩) hP hD hS hA wC_fst (fun r9 H locs hw hP hD hS => ?_)
                          have hP : va_P G vwCl (wW T Ad AF ta ca fa ga D mny N f g rk rf rg rh) H := hP
                          have hD : va_D (va_A (wW T Ad AF ta ca fa ga D mny N f g rk rf rg rh) s.heap.size) (wW T Ad AF ta ca fa ga D mny N f g rk rf rg rh) := hD
                          subst hw
                          refine gtop (y := (-30)) (wD_30 (show kSign (N j) (nI j) 7 = 1 by rw [kSign, if_pos (show okI (nI j) 16 = true from okI_nat9 (n := 16) (by omega) (by omega) hj16), c14, e1]; decide)) ?_
                          refine lv_iload hx hb dL_isWord_181 (lv_at hl 0 rfl) ?_
                          refine lv_if_ge (tgt := 191) hx hb dL_isWord_183 (by decide) (fun c183 => ?_) (fun c183 => ?_)
                          · exact absurd c183 (by decide)
                          · skip
                            refine lv_bipush (v := (-30)) hx hb dL_isWord_186 (by decide) ?_
                            refine lv_goto (tgt := 193) hx hb dL_isWord_188 (by decide) ?_
                            refine lv_icmp_ne (tgt := 243) hx hb dL_isWord_193 (by decide) (fun c193 => ?_) (fun c193 => ?_)
                            · exact absurd c193 (by decide)
                            · skip
                              refine lv_aload_n hx hb dL_isWord_196 rfl (lv_at hl 5 rfl) ?_
                              refine lv_iconst (v := 3) hx hb dL_isWord_197 (by decide) ?_
                              refine lv_iload_n hx hb dL_isWord_198 rfl (lv_at hl 7 rfl) ?_
                              refine lv_iload hx hb dL_isWord_199 (lv_at hl 3 rfl) ?_
                              refine lv_iconst (v := 1) hx hb dL_isWord_201 (by decide) ?_
                              refine lv_iadd hx hb dL_isWord_202 ?_
                              refine gtop (y := 8) (by decide) ?_
                              refine gciT (X := wX4 T Ad ta ca fa ga) (vx_runSW (As := [.ref (Ad 1), .int 3, .int (nI j), .int 8]) (rest := []) ⟨hx, hb, hml, hown, hts⟩ (cL_asks_3_noc l hl0 G T aK aV Ad AF D mny N f g rk rf rg rh j (nI j) 8 _ (by omega) (fun _ => ⟨rfl, hj16⟩) (fun h9 => absurd (h9.symm.trans (show kSign (N j) (nI j) 8 = 1 by rw [kSign, if_pos (show okI (nI j) 16 = true from okI_nat9 (n := 16) (by omega) (by omega) hj16), c14, e1]; decide)) (by decide))) (vx_cwSW 4 hts gL_isWord_L_asks rfl rfl rfl (by decide +kernel) ⟨Nat.le_of_ble_eq_true rfl, Nat.le_of_ble_eq_true rfl⟩) ⟨gblindW, gpreWT (X := wX4 T Ad ta ca fa ga) hWs hE hK hP hD hS hA⟩ rfl rfl hl.1 rfl (lv_room (Nat.le_of_ble_eq_true rfl)) dL_isWord_203 ⟨Nat.le_of_ble_eq_true rfl, Nat.le_of_ble_eq_true rfl⟩) hP hD hS hA wC_fst (fun r9 H locs hw hP hD hS => ?_)
                              have hP : va_P G vwCl (wW T Ad AF ta ca fa ga D mny N f g rk rf rg rh) H := hP
                              have hD : va_D (va_A (wW T Ad AF ta ca fa ga D mny N f g rk rf rg rh) s.heap.size) (wW T Ad AF ta ca fa ga D mny N f g rk rf rg rh) := hD
                              subst hw
                              refine gtop (y := (-30)) (wD_30 (show kSign (N j) (nI j) 8 = 1 by rw [kSign, if_pos (show okI (nI j) 16 = true from okI_nat9 (n := 16) (by omega) (by omega) hj16), c14, e1]; decide)) ?_
                              refine lv_iload hx hb dL_isWord_206 (lv_at hl 0 rfl) ?_
                              refine lv_if_ge (tgt := 216) hx hb dL_isWord_208 (by decide) (fun c208 => ?_) (fun c208 => ?_)
                              · exact absurd c208 (by decide)
                              · skip
                                refine lv_bipush (v := (-30)) hx hb dL_isWord_211 (by decide) ?_
                                refine lv_goto (tgt := 221) hx hb dL_isWord_213 (by decide) ?_
                                refine lv_icmp_ne (tgt := 243) hx hb dL_isWord_221 (by decide) (fun c221 => ?_) (fun c221 => ?_)
                                · exact absurd c221 (by decide)
                                · skip
                                  refine lv_aload_n hx hb dL_isWord_224 rfl (lv_at hl 5 rfl) ?_
                                  refine lv_iconst (v := 3) hx hb dL_isWord_225 (by decide) ?_
                                  refine lv_iload_n hx hb dL_isWord_226 rfl (lv_at hl 7 rfl) ?_
                                  refine lv_iload hx hb dL_isWord_227 (lv_at hl 3 rfl) ?_
                                  refine lv_iconst (v := 2) hx hb dL_isWord_229 (by decide) ?_
                                  refine lv_iadd hx hb dL_isWord_230 ?_
                                  refine gtop (y := 9) (by decide) ?_
                                  refine gciT (X := wX4 T Ad ta ca fa ga) (vx_runSW (As := [.ref (Ad 1), .int 3, .int (nI j), .int 9]) (rest := []) ⟨hx, hb, hml, hown, hts⟩ (cL_asks_3_noc l hl0 G T aK aV Ad AF D mny N f g rk rf rg rh j (nI j) 9 _ (by omega) (fun _ => ⟨rfl, hj16⟩) (fun h9 => absurd (h9.symm.trans (show kSign (N j) (nI j) 9 = 1 by rw [kSign, if_pos (show okI (nI j) 16 = true from okI_nat9 (n := 16) (by omega) (by omega) hj16), c14, e1]; decide)) (by decide))) (vx_cwSW 4 hts gL_isWord_L_asks rfl rfl rfl (by decide +kernel) ⟨Nat.le_of_ble_eq_true rfl, Nat.le_of_ble_eq_true rfl⟩) ⟨gblindW, gpreWT (X := wX4 T Ad ta ca fa ga) hWs hE hK hP hD hS hA⟩ rfl rfl hl.1 rfl (lv_room (Nat.le_of_ble_eq_true rfl)) dL_isWord_231 ⟨Nat.le_of_ble_eq_true rfl, Nat.le_of_ble_eq_true rfl⟩) hP hD hS hA wC_fst (fun r9 H locs hw hP hD hS => ?_)
                                  have hP : va_P G vwCl (wW T Ad AF ta ca fa ga D mny N f g rk rf rg rh) H := hP
                                  have hD : va_D (va_A (wW T Ad AF ta ca fa ga D mny N f g rk rf rg rh) s.heap.size) (wW T Ad AF ta ca fa ga D mny N f g rk rf rg rh) := hD
                                  subst hw
                                  refine gtop (y := (-30)) (wD_30 (show kSign (N j) (nI j) 9 = 1 by rw [kSign, if_pos (show okI (nI j) 16 = true from okI_nat9 (n := 16) (by omega) (by omega) hj16), c14, e1]; decide)) ?_
                                  refine lv_bipush (v := (-30)) hx hb dL_isWord_234 (by decide) ?_
                                  refine lv_icmp_ne (tgt := 243) hx hb dL_isWord_236 (by decide) (fun c236 => ?_) (fun c236 => ?_)
                                  · exact absurd c236 (by decide)
                                  · skip
                                    refine lv_iconst (v := 1) hx hb dL_isWord_239 (by decide) ?_
                                    refine lv_goto (tgt := 244) hx hb dL_isWord_240 (by decide) ?_
                                    exact W.zret (v := 1) hx hb hr (by decide) (fun t ht9 hW => ⟨⟨1, (), rfl, rfl, gBi ht9 (gfin hP (rfl))⟩, hS.F ht9⟩) hS.2.2 dL_isWord_244
                  · skip
                    refine gtop (y := nI o) (n2.2.1.trans e1) ?_
                    refine lv_istore (lv' := [(7, .int (nI o)), (6, .int 110), (5, .int 97), (4, .int 7), (3, .int (N j 0)), (0, .ref (Ad 1)), (1, .ref (Ad 5)), (2, .int (nI j))]) hx hb dL_isWord_132 hl (by decide) rfl (fun ls hl => ?_)
                    refine lv_aload_n hx hb dL_isWord_134 rfl (lv_at hl 5 rfl) ?_
                    refine lv_iconst (v := 3) hx hb dL_isWord_135 (by decide) ?_
                    refine lv_iload_n hx hb dL_isWord_136 rfl (lv_at hl 7 rfl) ?_
                    refine lv_iconst (v := 0) hx hb dL_isWord_137 (by decide) ?_
                    refine gciT (X := wX4 T Ad ta ca fa ga) (vx_runSW (As := [.ref (Ad 1), .int 3, .int (nI j), .int 0]) (rest := []) ⟨hx, hb, hml, hown, hts⟩ (cL_asks_3_okc l hl0 G T aK aV Ad AF D mny N f g rk rf rg rh j 0 _ (by omega) (show kSign (N j) (nI j) 0 = 0 by rw [kSign, if_pos (show okI (nI j) 16 = true from okI_nat9 (n := 16) (by omega) (by omega) hj16), c14, e1, if_neg (nI_nm1 (by omega))]; decide)) (vx_cwSW 4 hts gL_isWord_L_asks rfl rfl rfl (by decide +kernel) ⟨Nat.le_of_ble_eq_true rfl, Nat.le_of_ble_eq_true rfl⟩) ⟨gblindW, gpreWT (X := wX4 T Ad ta ca fa ga) hWs hE hK hP hD hS hA⟩ rfl rfl hl.1 rfl (lv_room (Nat.le_of_ble_eq_true rfl)) dL_isWord_138 ⟨Nat.le_of_ble_eq_true rfl, Nat.le_of_ble_eq_true rfl⟩) hP hD hS hA wC_fst (fun r9 H locs hw hP hD hS => ?_)
                    have hP : va_P G vwCl (wW T Ad AF ta ca fa ga D mny N f g rk rf rg rh) H := hP
                    have hD : va_D (va_A (wW T Ad AF ta ca fa ga D mny N f g rk rf rg rh) s.heap.size) (wW T Ad AF ta ca fa ga D mny N f g rk rf rg rh) := hD
                    subst hw
                    refine gtop (y := 97) (by rw [sSign, c14, if_pos (by decide)]; decide) ?_
                    refine lv_iload hx hb dL_isWord_141 (lv_at hl 2 rfl) ?_
                    refine lv_icmp_ne (tgt := 243) hx hb dL_isWord_143 (by decide) (fun c143 => ?_) (fun c143 => ?_)
                    · exact absurd c143 (by decide)
                    · skip
                      refine lv_aload_n hx hb dL_isWord_146 rfl (lv_at hl 5 rfl) ?_
                      refine lv_iconst (v := 3) hx hb dL_isWord_147 (by decide) ?_
                      refine lv_iload_n hx hb dL_isWord_148 rfl (lv_at hl 7 rfl) ?_
                      refine lv_iload hx hb dL_isWord_149 (lv_at hl 3 rfl) ?_
                      refine lv_iconst (v := 1) hx hb dL_isWord_151 (by decide) ?_
                      refine lv_isub hx hb dL_isWord_152 ?_
                      refine gtop (y := 6) (by decide) ?_
                      refine gciT (X := wX4 T Ad ta ca fa ga) (vx_runSW (As := [.ref (Ad 1), .int 3, .int (nI j), .int 6]) (rest := []) ⟨hx, hb, hml, hown, hts⟩ (cL_asks_3_okc l hl0 G T aK aV Ad AF D mny N f g rk rf rg rh j 6 _ (by omega) (show kSign (N j) (nI j) 6 = 0 by rw [kSign, if_pos (show okI (nI j) 16 = true from okI_nat9 (n := 16) (by omega) (by omega) hj16), c14, e1, if_neg (nI_nm1 (by omega))]; decide)) (vx_cwSW 4 hts gL_isWord_L_asks rfl rfl rfl (by decide +kernel) ⟨Nat.le_of_ble_eq_true rfl, Nat.le_of_ble_eq_true rfl⟩) ⟨gblindW, gpreWT (X := wX4 T Ad ta ca fa ga) hWs hE hK hP hD hS hA⟩ rfl rfl hl.1 rfl (lv_room (Nat.le_of_ble_eq_true rfl)) dL_isWord_153 ⟨Nat.le_of_ble_eq_true rfl, Nat.le_of_ble_eq_true rfl⟩) hP hD hS hA wC_fst (fun r9 H locs hw hP hD hS => ?_)
                      have hP : va_P G vwCl (wW T Ad AF ta ca fa ga D mny N f g rk rf rg rh) H := hP
                      have hD : va_D (va_A (wW T Ad AF ta ca fa ga D mny N f g rk rf rg rh) s.heap.size) (wW T Ad AF ta ca fa ga D mny N f g rk rf rg rh) := hD
                      subst hw
                      refine gtop (y := 110) (by rw [sSign, c14, if_pos (by decide)]; decide) ?_
                      refine lv_iload hx hb dL_isWord_156 (lv_at hl 1 rfl) ?_
                      refine lv_icmp_ne (tgt := 243) hx hb dL_isWord_158 (by decide) (fun c158 => ?_) (fun c158 => ?_)
                      · exact absurd c158 (by decide)
                      · skip
                        refine lv_aload_n hx hb dL_isWord_161 rfl (lv_at hl 5 rfl) ?_
                        refine lv_iconst (v := 3) hx hb dL_isWord_162 (by decide) ?_
                        refine lv_iload_n hx hb dL_isWord_163 rfl (lv_at hl 7 rfl) ?_
                        refine lv_iconst (v := (-1)) hx hb dL_isWord_164 (by decide) ?_
                        refine gciT (X := wX4 T Ad ta ca fa ga) (vx_runSW (As := [.ref (Ad 1), .int 3, .int (nI j), .int (-1)]) (rest := []) ⟨hx, hb, hml, hown, hts⟩ (cL_asks_3_noc l hl0 G T aK aV Ad AF D mny N f g rk rf rg rh j (nI j) (-1) _ (by omega) (fun _ => ⟨rfl, hj16⟩) (fun h9 => absurd (h9.symm.trans (show kSign (N j) (nI j) (-1) = 1 by rw [kSign, if_pos (show okI (nI j) 16 = true from okI_nat9 (n := 16) (by omega) (by omega) hj16), c14, e1, if_neg (nI_nm1 (by omega))]; decide)) (by decide))) (vx_cwSW 4 hts gL_isWord_L_asks rfl rfl rfl (by decide +kernel) ⟨Nat.le_of_ble_eq_true rfl, Nat.le_of_ble_eq_true rfl⟩) ⟨gblindW, gpreWT (X := wX4 T Ad ta ca fa ga) hWs hE hK hP hD hS hA⟩ rfl rfl hl.1 rfl (lv_room (Nat.le_of_ble_eq_true rfl)) dL_isWord_165 ⟨Nat.le_of_ble_eq_true rfl, Nat.le_of_ble_eq_true rfl⟩) hP hD hS hA wC_fst (fun r9 H locs hw hP hD hS => ?_)
                        have hP : va_P G vwCl (wW T Ad AF ta ca fa ga D mny N f g rk rf rg rh) H := hP
                        have hD : va_D (va_A (wW T Ad AF ta ca fa ga D mny N f g rk rf rg rh) s.heap.size) (wW T Ad AF ta ca fa ga D mny N f g rk rf rg rh) := hD
                        subst hw
                        refine gtop (y := (-30)) (wD_30 (show kSign (N j) (nI j) (-1) = 1 by rw [kSign, if_pos (show okI (nI j) 16 = true from okI_nat9 (n := 16) (by omega) (by omega) hj16), c14, e1, if_neg (nI_nm1 (by omega))]; decide)) ?_
                        refine lv_bipush (v := (-30)) hx hb dL_isWord_168 (by decide) ?_
                        refine lv_icmp_ne (tgt := 243) hx hb dL_isWord_170 (by decide) (fun c170 => ?_) (fun c170 => ?_)
                        · exact absurd c170 (by decide)
                        · skip
                          refine lv_aload_n hx hb dL_isWord_173 rfl (lv_at hl 5 rfl) ?_
                          refine lv_iconst (v := 3) hx hb dL_isWord_174 (by decide) ?_
                          refine lv_iload_n hx hb dL_isWord_175 rfl (lv_at hl 7 rfl) ?_
                          refine lv_iload hx hb dL_isWord_176 (lv_at hl 3 rfl) ?_
                          refine gciT (X := wX4 T Ad ta ca fa ga) (vx_runSW (As := [.ref (Ad 1), .int 3, .int (nI j), .int 7]) (rest := []) ⟨hx, hb, hml, hown, hts⟩ (cL_asks_3_okc l hl0 G T aK aV Ad AF D mny N f g rk rf rg rh j 7 _ (by omega) (show kSign (N j) (nI j) 7 = 0 by rw [kSign, if_pos (show okI (nI j) 16 = true from okI_nat9 (n := 16) (by omega) (by omega) hj16), c14, e1, if_neg (nI_nm1 (by omega))]; decide)) (vx_cwSW 4 hts gL_isWord_L_asks rfl rfl rfl (by decide +kernel) ⟨Nat.le_of_ble_eq_true rfl, Nat.le_of_ble_eq_true rfl⟩) ⟨gblindW, gpreWT (X := wX4 T Ad ta ca fa ga) hWs hE hK hP hD hS hA⟩ rfl rfl hl.1 rfl (lv_room (Nat.le_of_ble_eq_true rfl)) dL_isWord_178 ⟨Nat.le_of_ble_eq_true rfl, Nat.le_of_ble_eq_true rfl⟩) hP hD hS hA wC_fst (fun r9 H locs hw hP hD hS => ?_)
                          have hP : va_P G vwCl (wW T Ad AF ta ca fa ga D mny N f g rk rf rg rh) H := hP
                          have hD : va_D (va_A (wW T Ad AF ta ca fa ga D mny N f g rk rf rg rh) s.heap.size) (wW T Ad AF ta ca fa ga D mny N f g rk rf rg rh) := hD
                          subst hw
                          refine gtop (y := 58) (by rw [sSign, c14, if_neg (by decide), if_neg (by decide)]) ?_
                          refine lv_iload hx hb dL_isWord_181 (lv_at hl 0 rfl) ?_
                          refine lv_if_ge (tgt := 191) hx hb dL_isWord_183 (by decide) (fun c183 => ?_) (fun c183 => ?_)
                          · skip
                            refine lv_bipush (v := 58) hx hb dL_isWord_191 (by decide) ?_
                            refine lv_icmp_ne (tgt := 243) hx hb dL_isWord_193 (by decide) (fun c193 => ?_) (fun c193 => ?_)
                            · exact absurd c193 (by decide)
                            · skip
                              refine lv_aload_n hx hb dL_isWord_196 rfl (lv_at hl 5 rfl) ?_
                              refine lv_iconst (v := 3) hx hb dL_isWord_197 (by decide) ?_
                              refine lv_iload_n hx hb dL_isWord_198 rfl (lv_at hl 7 rfl) ?_
                              refine lv_iload hx hb dL_isWord_199 (lv_at hl 3 rfl) ?_
                              refine lv_iconst (v := 1) hx hb dL_isWord_201 (by decide) ?_
                              refine lv_iadd hx hb dL_isWord_202 ?_
                              refine gtop (y := 8) (by decide) ?_
                              refine gciT (X := wX4 T Ad ta ca fa ga) (vx_runSW (As := [.ref (Ad 1), .int 3, .int (nI j), .int 8]) (rest := []) ⟨hx, hb, hml, hown, hts⟩ (cL_asks_3_okc l hl0 G T aK aV Ad AF D mny N f g rk rf rg rh j 8 _ (by omega) (show kSign (N j) (nI j) 8 = 0 by rw [kSign, if_pos (show okI (nI j) 16 = true from okI_nat9 (n := 16) (by omega) (by omega) hj16), c14, e1, if_neg (nI_nm1 (by omega))]; decide)) (vx_cwSW 4 hts gL_isWord_L_asks rfl rfl rfl (by decide +kernel) ⟨Nat.le_of_ble_eq_true rfl, Nat.le_of_ble_eq_true rfl⟩) ⟨gblindW, gpreWT (X := wX4 T Ad ta ca fa ga) hWs hE hK hP hD hS hA⟩ rfl rfl hl.1 rfl (lv_room (Nat.le_of_ble_eq_true rfl)) dL_isWord_203 ⟨Nat.le_of_ble_eq_true rfl, Nat.le_of_ble_eq_true rfl⟩) hP hD hS hA wC_fst (fun r9 H locs hw hP hD hS => ?_)
                              have hP : va_P G vwCl (wW T Ad AF ta ca fa ga D mny N f g rk rf rg rh) H := hP
                              have hD : va_D (va_A (wW T Ad AF ta ca fa ga D mny N f g rk rf rg rh) s.heap.size) (wW T Ad AF ta ca fa ga D mny N f g rk rf rg rh) := hD
                              subst hw
                              refine gtop (y := nI (48 + o)) (by rw [sSign, c14, if_neg (by decide), if_pos (by decide), e1]; exact dig9 o ho6) ?_
                              refine lv_iload hx hb dL_isWord_206 (lv_at hl 0 rfl) ?_
                              refine lv_if_ge (tgt := 216) hx hb dL_isWord_208 (by decide) (fun c208 => ?_) (fun c208 => ?_)
                              · skip
                                refine lv_bipush (v := 48) hx hb dL_isWord_216 (by decide) ?_
                                refine lv_iload hx hb dL_isWord_218 (lv_at hl 0 rfl) ?_
                                refine lv_iadd hx hb dL_isWord_220 ?_
                                refine gtop (y := nI (48 + o)) (nI_add 48 o) ?_
                                refine lv_icmp_ne (tgt := 243) hx hb dL_isWord_221 (by decide) (fun c221 => ?_) (fun c221 => ?_)
                                · exact absurd rfl c221
                                · skip
                                  refine lv_aload_n hx hb dL_isWord_224 rfl (lv_at hl 5 rfl) ?_
                                  refine lv_iconst (v := 3) hx hb dL_isWord_225 (by decide) ?_
                                  refine lv_iload_n hx hb dL_isWord_226 rfl (lv_at hl 7 rfl) ?_
                                  refine lv_iload hx hb dL_isWord_227 (lv_at hl 3 rfl) ?_
                                  refine lv_iconst (v := 2) hx hb dL_isWord_229 (by decide) ?_
                                  refine lv_iadd hx hb dL_isWord_230 ?_
                                  refine gtop (y := 9) (by decide) ?_
                                  refine gciT (X := wX4 T Ad ta ca fa ga) (vx_runSW (As := [.ref (Ad 1), .int 3, .int (nI j), .int 9]) (rest := []) ⟨hx, hb, hml, hown, hts⟩ (cL_asks_3_noc l hl0 G T aK aV Ad AF D mny N f g rk rf rg rh j (nI j) 9 _ (by omega) (fun _ => ⟨rfl, hj16⟩) (fun h9 => absurd (h9.symm.trans (show kSign (N j) (nI j) 9 = 1 by rw [kSign, if_pos (show okI (nI j) 16 = true from okI_nat9 (n := 16) (by omega) (by omega) hj16), c14, e1, if_neg (nI_nm1 (by omega))]; decide)) (by decide))) (vx_cwSW 4 hts gL_isWord_L_asks rfl rfl rfl (by decide +kernel) ⟨Nat.le_of_ble_eq_true rfl, Nat.le_of_ble_eq_true rfl⟩) ⟨gblindW, gpreWT (X := wX4 T Ad ta ca fa ga) hWs hE hK hP hD hS hA⟩ rfl rfl hl.1 rfl (lv_room (Nat.le_of_ble_eq_true rfl)) dL_isWord_231 ⟨Nat.le_of_ble_eq_true rfl, Nat.le_of_ble_eq_true rfl⟩) hP hD hS hA wC_fst (fun r9 H locs hw hP hD hS => ?_)
                                  have hP : va_P G vwCl (wW T Ad AF ta ca fa ga D mny N f g rk rf rg rh) H := hP
                                  have hD : va_D (va_A (wW T Ad AF ta ca fa ga D mny N f g rk rf rg rh) s.heap.size) (wW T Ad AF ta ca fa ga D mny N f g rk rf rg rh) := hD
                                  subst hw
                                  refine gtop (y := (-30)) (wD_30 (show kSign (N j) (nI j) 9 = 1 by rw [kSign, if_pos (show okI (nI j) 16 = true from okI_nat9 (n := 16) (by omega) (by omega) hj16), c14, e1, if_neg (nI_nm1 (by omega))]; decide)) ?_
                                  refine lv_bipush (v := (-30)) hx hb dL_isWord_234 (by decide) ?_
                                  refine lv_icmp_ne (tgt := 243) hx hb dL_isWord_236 (by decide) (fun c236 => ?_) (fun c236 => ?_)
                                  · exact absurd c236 (by decide)
                                  · skip
                                    refine lv_iconst (v := 1) hx hb dL_isWord_239 (by decide) ?_
                                    refine lv_goto (tgt := 244) hx hb dL_isWord_240 (by decide) ?_
                                    exact W.zret (v := 1) hx hb hr (by decide) (fun t ht9 hW => ⟨⟨1, (), rfl, rfl, gBi ht9 (gfin hP (rfl))⟩, hS.F ht9⟩) hS.2.2 dL_isWord_244
                              · exact absurd (nI_pos' (by omega)) c208
                          · exact absurd (nI_pos' (by omega)) c183
                · exact absurd (c14.symm.trans c114) (by decide)
              · exact absurd (c14.symm.trans c104) (by decide)
        · exact absurd (c14.symm.trans c56) (by decide)
  · skip
    refine lv_iconst (v := 4) hx hb dL_isWord_8 (by decide) ?_
    refine lv_goto (tgt := 48) hx hb dL_isWord_9 (by decide) ?_
    refine lv_istore (lv' := [(4, .int 4), (3, .int (N j 0)), (0, .ref (Ad 1)), (1, .ref (Ad 5)), (2, .int (nI j))]) hx hb dL_isWord_48 hl (by decide) rfl (fun ls hl => ?_)
    refine lv_iload_n hx hb dL_isWord_50 rfl (lv_at hl 1 rfl) ?_
    refine lv_if_eq (tgt := 59) hx hb dL_isWord_51 (by decide) (fun c51 => ?_) (fun c51 => ?_)
    · skip
      refine lv_bipush (v := 102) hx hb dL_isWord_59 (by decide) ?_
      refine lv_goto (tgt := 96) hx hb dL_isWord_61 (by decide) ?_
      refine lv_istore (lv' := [(5, .int 102), (4, .int 4), (3, .int (N j 0)), (0, .ref (Ad 1)), (1, .ref (Ad 5)), (2, .int (nI j))]) hx hb dL_isWord_96 hl (by decide) rfl (fun ls hl => ?_)
      refine lv_iload_n hx hb dL_isWord_98 rfl (lv_at hl 2 rfl) ?_
      refine lv_if_eq (tgt := 107) hx hb dL_isWord_99 (by decide) (fun c99 => ?_) (fun c99 => ?_)
      · skip
        refine lv_bipush (v := 101) hx hb dL_isWord_107 (by decide) ?_
        refine lv_goto (tgt := 124) hx hb dL_isWord_109 (by decide) ?_
        refine lv_istore (lv' := [(6, .int 101), (5, .int 102), (4, .int 4), (3, .int (N j 0)), (0, .ref (Ad 1)), (1, .ref (Ad 5)), (2, .int (nI j))]) hx hb dL_isWord_124 hl (by decide) rfl (fun ls hl => ?_)
        refine lv_aload_n hx hb dL_isWord_126 rfl (lv_at hl 5 rfl) ?_
        refine lv_bipush (v := 16) hx hb dL_isWord_127 (by decide) ?_
        refine lv_iload_n hx hb dL_isWord_129 rfl (lv_at hl 6 rfl) ?_
        refine lv_iadd hx hb dL_isWord_130 ?_
        refine gtop (y := nI (16 + j)) (nI_add 16 j) ?_
        refine giald (j := (16 + j)) hx hb hK hP 0 0 rfl rfl (show (nI (16 + j) : Int32) = nI (16 + j) from rfl) (by omega) (by decide) dL_isWord_131 ?_
        rcases n1.own with e1 | ⟨o, ho6, e1⟩
        · skip
          refine gtop (y := (-1)) (n2.2.1.trans e1) ?_
          refine lv_istore (lv' := [(7, .int (-1)), (6, .int 101), (5, .int 102), (4, .int 4), (3, .int (N j 0)), (0, .ref (Ad 1)), (1, .ref (Ad 5)), (2, .int (nI j))]) hx hb dL_isWord_132 hl (by decide) rfl (fun ls hl => ?_)
          refine lv_aload_n hx hb dL_isWord_134 rfl (lv_at hl 5 rfl) ?_
          refine lv_iconst (v := 3) hx hb dL_isWord_135 (by decide) ?_
          refine lv_iload_n hx hb dL_isWord_136 rfl (lv_at hl 7 rfl) ?_
          refine lv_iconst (v := 0) hx hb dL_isWord_137 (by decide) ?_
          refine gciT (X := wX4 T Ad ta ca fa ga) (vx_runSW (As := [.ref (Ad 1), .int 3, .int (nI j), .int 0]) (rest := []) ⟨hx, hb, hml, hown, hts⟩ (cL_asks_3_okc l hl0 G T aK aV Ad AF D mny N f g rk rf rg rh j 0 _ (by omega) (show kSign (N j) (nI j) 0 = 0 by rw [kSign, if_pos (show okI (nI j) 16 = true from okI_nat9 (n := 16) (by omega) (by omega) hj16), c5, e1]; decide)) (vx_cwSW 4 hts gL_isWord_L_asks rfl rfl rfl (by decide +kernel) ⟨Nat.le_of_ble_eq_true rfl, Nat.le_of_ble_eq_true rfl⟩) ⟨gblindW, gpreWT (X := wX4 T Ad ta ca fa ga) hWs hE hK hP hD hS hA⟩ rfl rfl hl.1 rfl (lv_room (Nat.le_of_ble_eq_true rfl)) dL_isWord_138 ⟨Nat.le_of_ble_eq_true rfl, Nat.le_of_ble_eq_true rfl⟩) hP hD hS hA wC_fst (fun r9 H locs hw hP hD hS => ?_)
          have hP : va_P G vwCl (wW T Ad AF ta ca fa ga D mny N f g rk rf rg rh) H := hP
          have hD : va_D (va_A (wW T Ad AF ta ca fa ga D mny N f g rk rf rg rh) s.heap.size) (wW T Ad AF ta ca fa ga D mny N f g rk rf rg rh) := hD
          subst hw
          refine gtop (y := 102) (by rw [sSign, c5, if_pos (by decide)]; decide) ?_
          refine lv_iload hx hb dL_isWord_141 (lv_at hl 2 rfl) ?_
          refine lv_icmp_ne (tgt := 243) hx hb dL_isWord_143 (by decide) (fun c143 => ?_) (fun c143 => ?_)
          · exact absurd c143 (by decide)
          · skip
            refine lv_aload_n hx hb dL_isWord_146 rfl (lv_at hl 5 rfl) ?_
            refine lv_iconst (v := 3) hx hb dL_isWord_147 (by decide) ?_
            refine lv_iload_n hx hb dL_isWord_148 rfl (lv_at hl 7 rfl) ?_
            refine lv_iload hx hb dL_isWord_149 (lv_at hl 3 rfl) ?_
            refine lv_iconst (v := 1) hx hb dL_isWord_151 (by decide) ?_
            refine lv_isub hx hb dL_isWord_152 ?_
            refine gtop (y := 3) (by decide) ?_
            refine gciT (X := wX4 T Ad ta ca fa ga) (vx_runSW (As := [.ref (Ad 1), .int 3, .int (nI j), .int 3]) (rest := []) ⟨hx, hb, hml, hown, hts⟩ (cL_asks_3_okc l hl0 G T aK aV Ad AF D mny N f g rk rf rg rh j 3 _ (by omega) (show kSign (N j) (nI j) 3 = 0 by rw [kSign, if_pos (show okI (nI j) 16 = true from okI_nat9 (n := 16) (by omega) (by omega) hj16), c5, e1]; decide)) (vx_cwSW 4 hts gL_isWord_L_asks rfl rfl rfl (by decide +kernel) ⟨Nat.le_of_ble_eq_true rfl, Nat.le_of_ble_eq_true rfl⟩) ⟨gblindW, gpreWT (X := wX4 T Ad ta ca fa ga) hWs hE hK hP hD hS hA⟩ rfl rfl hl.1 rfl (lv_room (Nat.le_of_ble_eq_true rfl)) dL_isWord_153 ⟨Nat.le_of_ble_eq_true rfl, Nat.le_of_ble_eq_true rfl⟩) hP hD hS hA wC_fst (fun r9 H locs hw hP hD hS => ?_)
            have hP : va_P G vwCl (wW T Ad AF ta ca fa ga D mny N f g rk rf rg rh) H := hP
            have hD : va_D (va_A (wW T Ad AF ta ca fa ga D mny N f g rk rf rg rh) s.heap.size) (wW T Ad AF ta ca fa ga D mny N f g rk rf rg rh) := hD
            subst hw
            refine gtop (y := 101) (by rw [sSign, c5, if_pos (by decide)]; decide) ?_
            refine lv_iload hx hb dL_isWord_156 (lv_at hl 1 rfl) ?_
            refine lv_icmp_ne (tgt := 243) hx hb dL_isWord_158 (by decide) (fun c158 => ?_) (fun c158 => ?_)
            · exact absurd c158 (by decide)
            · skip
              refine lv_aload_n hx hb dL_isWord_161 rfl (lv_at hl 5 rfl) ?_
              refine lv_iconst (v := 3) hx hb dL_isWord_162 (by decide) ?_
              refine lv_iload_n hx hb dL_isWord_163 rfl (lv_at hl 7 rfl) ?_
              refine lv_iconst (v := (-1)) hx hb dL_isWord_164 (by decide) ?_
              refine gciT (X := wX4 T Ad ta ca fa ga) (vx_runSW (As := [.ref (Ad 1), .int 3, .int (nI j), .int (-1)]) (rest := []) ⟨hx, hb, hml, hown, hts⟩ (cL_asks_3_noc l hl0 G T aK aV Ad AF D mny N f g rk rf rg rh j (nI j) (-1) _ (by omega) (fun _ => ⟨rfl, hj16⟩) (fun h9 => absurd (h9.symm.trans (show kSign (N j) (nI j) (-1) = 1 by rw [kSign, if_pos (show okI (nI j) 16 = true from okI_nat9 (n := 16) (by omega) (by omega) hj16), c5, e1]; decide)) (by decide))) (vx_cwSW 4 hts gL_isWord_L_asks rfl rfl rfl (by decide +kernel) ⟨Nat.le_of_ble_eq_true rfl, Nat.le_of_ble_eq_true rfl⟩) ⟨gblindW, gpreWT (X := wX4 T Ad ta ca fa ga) hWs hE hK hP hD hS hA⟩ rfl rfl hl.1 rfl (lv_room (Nat.le_of_ble_eq_true rfl)) dL_isWord_165 ⟨Nat.le_of_ble_eq_true rfl, Nat.le_of_ble_eq_true rfl⟩) hP hD hS hA wC_fst (fun r9 H locs hw hP hD hS => ?_)
              have hP : va_P G vwCl (wW T Ad AF ta ca fa ga D mny N f g rk rf rg rh) H := hP
              have hD : va_D (va_A (wW T Ad AF ta ca fa ga D mny N f g rk rf rg rh) s.heap.size) (wW T Ad AF ta ca fa ga D mny N f g rk rf rg rh) := hD
              subst hw
              refine gtop (y := (-30)) (wD_30 (show kSign (N j) (nI j) (-1) = 1 by rw [kSign, if_pos (show okI (nI j) 16 = true from okI_nat9 (n := 16) (by omega) (by omega) hj16), c5, e1]; decide)) ?_
              refine lv_bipush (v := (-30)) hx hb dL_isWord_168 (by decide) ?_
              refine lv_icmp_ne (tgt := 243) hx hb dL_isWord_170 (by decide) (fun c170 => ?_) (fun c170 => ?_)
              · exact absurd c170 (by decide)
              · skip
                refine lv_aload_n hx hb dL_isWord_173 rfl (lv_at hl 5 rfl) ?_
                refine lv_iconst (v := 3) hx hb dL_isWord_174 (by decide) ?_
                refine lv_iload_n hx hb dL_isWord_175 rfl (lv_at hl 7 rfl) ?_
                refine lv_iload hx hb dL_isWord_176 (lv_at hl 3 rfl) ?_
                refine gciT (X := wX4 T Ad ta ca fa ga) (vx_runSW (As := [.ref (Ad 1), .int 3, .int (nI j), .int 4]) (rest := []) ⟨hx, hb, hml, hown, hts⟩ (cL_asks_3_noc l hl0 G T aK aV Ad AF D mny N f g rk rf rg rh j (nI j) 4 _ (by omega) (fun _ => ⟨rfl, hj16⟩) (fun h9 => absurd (h9.symm.trans (show kSign (N j) (nI j) 4 = 1 by rw [kSign, if_pos (show okI (nI j) 16 = true from okI_nat9 (n := 16) (by omega) (by omega) hj16), c5, e1]; decide)) (by decide))) (vx_cwSW 4 hts gL_isWord_L_asks rfl rfl rfl (by decide +kernel) ⟨Nat.le_of_ble_eq_true rfl, Nat.le_of_ble_eq_true rfl⟩) ⟨gblindW, gpreWT (X := wX4 T Ad ta ca fa ga) hWs hE hK hP hD hS hA⟩ rfl rfl hl.1 rfl (lv_room (Nat.le_of_ble_eq_true rfl)) dL_isWord_178 ⟨Nat.le_of_ble_eq_true rfl, Nat.le_of_ble_eq_true rfl⟩) hP hD hS hA wC_fst (fun r9 H locs hw hP hD hS => ?_)
                have hP : va_P G vwCl (wW T Ad AF ta ca fa ga D mny N f g rk rf rg rh) H := hP
                have hD : va_D (va_A (wW T Ad AF ta ca fa ga D mny N f g rk rf rg rh) s.heap.size) (wW T Ad AF ta ca fa ga D mny N f g rk rf rg rh) := hD
                subst hw
                refine gtop (y := (-30)) (wD_30 (show kSign (N j) (nI j) 4 = 1 by rw [kSign, if_pos (show okI (nI j) 16 = true from okI_nat9 (n := 16) (by omega) (by omega) hj16), c5, e1]; decide)) ?_
                refine lv_iload hx hb dL_isWord_181 (lv_at hl 0 rfl) ?_
                refine lv_if_ge (tgt := 191) hx hb dL_isWord_183 (by decide) (fun c183 => ?_) (fun c183 => ?_)
                · exact absurd c183 (by decide)
                · skip
                  refine lv_bipush (v := (-30)) hx hb dL_isWord_186 (by decide) ?_
                  refine lv_goto (tgt := 193) hx hb dL_isWord_188 (by decide) ?_
                  refine lv_icmp_ne (tgt := 243) hx hb dL_isWord_193 (by decide) (fun c193 => ?_) (fun c193 => ?_)
                  · exact absurd c193 (by decide)
                  · skip
                    refine lv_aload_n hx hb dL_isWord_196 rfl (lv_at hl 5 rfl) ?_
                    refine lv_iconst (v := 3) hx hb dL_isWord_197 (by decide) ?_
                    refine lv_iload_n hx hb dL_isWord_198 rfl (lv_at hl 7 rfl) ?_
                    refine lv_iload hx hb dL_isWord_199 (lv_at hl 3 rfl) ?_
                    refine lv_iconst (v := 1) hx hb dL_isWord_201 (by decide) ?_
                    refine lv_iadd hx hb dL_isWord_202 ?_
                    refine gtop (y := 5) (by decide) ?_
                    refine gciT (X := wX4 T Ad ta ca fa ga) (vx_runSW (As := [.ref (Ad 1), .int 3, .int (nI j), .int 5]) (rest := []) ⟨hx, hb, hml, hown, hts⟩ (cL_asks_3_noc l hl0 G T aK aV Ad AF D mny N f g rk rf rg rh j (nI j) 5 _ (by omega) (fun _ => ⟨rfl, hj16⟩) (fun h9 => absurd (h9.symm.trans (show kSign (N j) (nI j) 5 = 1 by rw [kSign, if_pos (show okI (nI j) 16 = true from okI_nat9 (n := 16) (by omega) (by omega) hj16), c5, e1]; decide)) (by decide))) (vx_cwSW 4 hts gL_isWord_L_asks rfl rfl rfl (by decide +kernel) ⟨Nat.le_of_ble_eq_true rfl, Nat.le_of_ble_eq_true rfl⟩) ⟨gblindW, gpreWT (X := wX4 T Ad ta ca fa ga) hWs hE hK hP hD hS hA⟩ rfl rfl hl.1 rfl (lv_room (Nat.le_of_ble_eq_true rfl)) dL_isWord_203 ⟨Nat.le_of_ble_eq_true rfl, Nat.le_of_ble_eq_true rfl⟩) hP hD hS hA wC_fst (fun r9 H locs hw hP hD hS => ?_)
                    have hP : va_P G vwCl (wW T Ad AF ta ca fa ga D mny N f g rk rf rg rh) H := hP
                    have hD : va_D (va_A (wW T Ad AF ta ca fa ga D mny N f g rk rf rg rh) s.heap.size) (wW T Ad AF ta ca fa ga D mny N f g rk rf rg rh) := hD
                    subst hw
                    refine gtop (y := (-30)) (wD_30 (show kSign (N j) (nI j) 5 = 1 by rw [kSign, if_pos (show okI (nI j) 16 = true from okI_nat9 (n := 16) (by omega) (by omega) hj16), c5, e1]; decide)) ?_
                    refine lv_iload hx hb dL_isWord_206 (lv_at hl 0 rfl) ?_
                    refine lv_if_ge (tgt := 216) hx hb dL_isWord_208 (by decide) (fun c208 => ?_) (fun c208 => ?_)
                    · exact absurd c208 (by decide)
                    · skip
                      refine lv_bipush (v := (-30)) hx hb dL_isWord_211 (by decide) ?_
                      refine lv_goto (tgt := 221) hx hb dL_isWord_213 (by decide) ?_
                      refine lv_icmp_ne (tgt := 243) hx hb dL_isWord_221 (by decide) (fun c221 => ?_) (fun c221 => ?_)
                      · exact absurd c221 (by decide)
                      · skip
                        refine lv_aload_n hx hb dL_isWord_224 rfl (lv_at hl 5 rfl) ?_
                        refine lv_iconst (v := 3) hx hb dL_isWord_225 (by decide) ?_
                        refine lv_iload_n hx hb dL_isWord_226 rfl (lv_at hl 7 rfl) ?_
                        refine lv_iload hx hb dL_isWord_227 (lv_at hl 3 rfl) ?_
                        refine lv_iconst (v := 2) hx hb dL_isWord_229 (by decide) ?_
                        refine lv_iadd hx hb dL_isWord_230 ?_
                        refine gtop (y := 6) (by decide) ?_
                        refine gciT (X := wX4 T Ad ta ca fa ga) (vx_runSW (As := [.ref (Ad 1), .int 3, .int (nI j), .int 6]) (rest := []) ⟨hx, hb, hml, hown, hts⟩ (cL_asks_3_noc l hl0 G T aK aV Ad AF D mny N f g rk rf rg rh j (nI j) 6 _ (by omega) (fun _ => ⟨rfl, hj16⟩) (fun h9 => absurd (h9.symm.trans (show kSign (N j) (nI j) 6 = 1 by rw [kSign, if_pos (show okI (nI j) 16 = true from okI_nat9 (n := 16) (by omega) (by omega) hj16), c5, e1]; decide)) (by decide))) (vx_cwSW 4 hts gL_isWord_L_asks rfl rfl rfl (by decide +kernel) ⟨Nat.le_of_ble_eq_true rfl, Nat.le_of_ble_eq_true rfl⟩) ⟨gblindW, gpreWT (X := wX4 T Ad ta ca fa ga) hWs hE hK hP hD hS hA⟩ rfl rfl hl.1 rfl (lv_room (Nat.le_of_ble_eq_true rfl)) dL_isWord_231 ⟨Nat.le_of_ble_eq_true rfl, Nat.le_of_ble_eq_true rfl⟩) hP hD hS hA wC_fst (fun r9 H locs hw hP hD hS => ?_)
                        have hP : va_P G vwCl (wW T Ad AF ta ca fa ga D mny N f g rk rf rg rh) H := hP
                        have hD : va_D (va_A (wW T Ad AF ta ca fa ga D mny N f g rk rf rg rh) s.heap.size) (wW T Ad AF ta ca fa ga D mny N f g rk rf rg rh) := hD
                        subst hw
                        refine gtop (y := (-30)) (wD_30 (show kSign (N j) (nI j) 6 = 1 by rw [kSign, if_pos (show okI (nI j) 16 = true from okI_nat9 (n := 16) (by omega) (by omega) hj16), c5, e1]; decide)) ?_
                        refine lv_bipush (v := (-30)) hx hb dL_isWord_234 (by decide) ?_
                        refine lv_icmp_ne (tgt := 243) hx hb dL_isWord_236 (by decide) (fun c236 => ?_) (fun c236 => ?_)
                        · exact absurd c236 (by decide)
                        · skip
                          refine lv_iconst (v := 1) hx hb dL_isWord_239 (by decide) ?_
                          refine lv_goto (tgt := 244) hx hb dL_isWord_240 (by decide) ?_
                          exact W.zret (v := 1) hx hb hr (by decide) (fun t ht9 hW => ⟨⟨1, (), rfl, rfl, gBi ht9 (gfin hP (rfl))⟩, hS.F ht9⟩) hS.2.2 dL_isWord_244
        · skip
          refine gtop (y := nI o) (n2.2.1.trans e1) ?_
          refine lv_istore (lv' := [(7, .int (nI o)), (6, .int 101), (5, .int 102), (4, .int 4), (3, .int (N j 0)), (0, .ref (Ad 1)), (1, .ref (Ad 5)), (2, .int (nI j))]) hx hb dL_isWord_132 hl (by decide) rfl (fun ls hl => ?_)
          refine lv_aload_n hx hb dL_isWord_134 rfl (lv_at hl 5 rfl) ?_
          refine lv_iconst (v := 3) hx hb dL_isWord_135 (by decide) ?_
          refine lv_iload_n hx hb dL_isWord_136 rfl (lv_at hl 7 rfl) ?_
          refine lv_iconst (v := 0) hx hb dL_isWord_137 (by decide) ?_
          refine gciT (X := wX4 T Ad ta ca fa ga) (vx_runSW (As := [.ref (Ad 1), .int 3, .int (nI j), .int 0]) (rest := []) ⟨hx, hb, hml, hown, hts⟩ (cL_asks_3_okc l hl0 G T aK aV Ad AF D mny N f g rk rf rg rh j 0 _ (by omega) (show kSign (N j) (nI j) 0 = 0 by rw [kSign, if_pos (show okI (nI j) 16 = true from okI_nat9 (n := 16) (by omega) (by omega) hj16), c5, e1, if_neg (nI_nm1 (by omega))]; decide)) (vx_cwSW 4 hts gL_isWord_L_asks rfl rfl rfl (by decide +kernel) ⟨Nat.le_of_ble_eq_true rfl, Nat.le_of_ble_eq_true rfl⟩) ⟨gblindW, gpreWT (X := wX4 T Ad ta ca fa ga) hWs hE hK hP hD hS hA⟩ rfl rfl hl.1 rfl (lv_room (Nat.le_of_ble_eq_true rfl)) dL_isWord_138 ⟨Nat.le_of_ble_eq_true rfl, Nat.le_of_ble_eq_true rfl⟩) hP hD hS hA wC_fst (fun r9 H locs hw hP hD hS => ?_)
          have hP : va_P G vwCl (wW T Ad AF ta ca fa ga D mny N f g rk rf rg rh) H := hP
          have hD : va_D (va_A (wW T Ad AF ta ca fa ga D mny N f g rk rf rg rh) s.heap.size) (wW T Ad AF ta ca fa ga D mny N f g rk rf rg rh) := hD
          subst hw
          refine gtop (y := 102) (by rw [sSign, c5, if_pos (by decide)]; decide) ?_
          refine lv_iload hx hb dL_isWord_141 (lv_at hl 2 rfl) ?_
          refine lv_icmp_ne (tgt := 243) hx hb dL_isWord_143 (by decide) (fun c143 => ?_) (fun c143 => ?_)
          · exact absurd c143 (by decide)
          · skip
            refine lv_aload_n hx hb dL_isWord_146 rfl (lv_at hl 5 rfl) ?_
            refine lv_iconst (v := 3) hx hb dL_isWord_147 (by decide) ?_
            refine lv_iload_n hx hb dL_isWord_148 rfl (lv_at hl 7 rfl) ?_
            refine lv_iload hx hb dL_isWord_149 (lv_at hl 3 rfl) ?_
            refine lv_iconst (v := 1) hx hb dL_isWord_151 (by decide) ?_
            refine lv_isub hx hb dL_isWord_152 ?_
            refine gtop (y := 3) (by decide) ?_
            refine gciT (X := wX4 T Ad ta ca fa ga) (vx_runSW (As := [.ref (Ad 1), .int 3, .int (nI j), .int 3]) (rest := []) ⟨hx, hb, hml, hown, hts⟩ (cL_asks_3_okc l hl0 G T aK aV Ad AF D mny N f g rk rf rg rh j 3 _ (by omega) (show kSign (N j) (nI j) 3 = 0 by rw [kSign, if_pos (show okI (nI j) 16 = true from okI_nat9 (n := 16) (by omega) (by omega) hj16), c5, e1, if_neg (nI_nm1 (by omega))]; decide)) (vx_cwSW 4 hts gL_isWord_L_asks rfl rfl rfl (by decide +kernel) ⟨Nat.le_of_ble_eq_true rfl, Nat.le_of_ble_eq_true rfl⟩) ⟨gblindW, gpreWT (X := wX4 T Ad ta ca fa ga) hWs hE hK hP hD hS hA⟩ rfl rfl hl.1 rfl (lv_room (Nat.le_of_ble_eq_true rfl)) dL_isWord_153 ⟨Nat.le_of_ble_eq_true rfl, Nat.le_of_ble_eq_true rfl⟩) hP hD hS hA wC_fst (fun r9 H locs hw hP hD hS => ?_)
            have hP : va_P G vwCl (wW T Ad AF ta ca fa ga D mny N f g rk rf rg rh) H := hP
            have hD : va_D (va_A (wW T Ad AF ta ca fa ga D mny N f g rk rf rg rh) s.heap.size) (wW T Ad AF ta ca fa ga D mny N f g rk rf rg rh) := hD
            subst hw
            refine gtop (y := 101) (by rw [sSign, c5, if_pos (by decide)]; decide) ?_
            refine lv_iload hx hb dL_isWord_156 (lv_at hl 1 rfl) ?_
            refine lv_icmp_ne (tgt := 243) hx hb dL_isWord_158 (by decide) (fun c158 => ?_) (fun c158 => ?_)
            · exact absurd c158 (by decide)
            · skip
              refine lv_aload_n hx hb dL_isWord_161 rfl (lv_at hl 5 rfl) ?_
              refine lv_iconst (v := 3) hx hb dL_isWord_162 (by decide) ?_
              refine lv_iload_n hx hb dL_isWord_163 rfl (lv_at hl 7 rfl) ?_
              refine lv_iconst (v := (-1)) hx hb dL_isWord_164 (by decide) ?_
              refine gciT (X := wX4 T Ad ta ca fa ga) (vx_runSW (As := [.ref (Ad 1), .int 3, .int (nI j), .int (-1)]) (rest := []) ⟨hx, hb, hml, hown, hts⟩ (cL_asks_3_noc l hl0 G T aK aV Ad AF D mny N f g rk rf rg rh j (nI j) (-1) _ (by omega) (fun _ => ⟨rfl, hj16⟩) (fun h9 => absurd (h9.symm.trans (show kSign (N j) (nI j) (-1) = 1 by rw [kSign, if_pos (show okI (nI j) 16 = true from okI_nat9 (n := 16) (by omega) (by omega) hj16), c5, e1, if_neg (nI_nm1 (by omega))]; decide)) (by decide))) (vx_cwSW 4 hts gL_isWord_L_asks rfl rfl rfl (by decide +kernel) ⟨Nat.le_of_ble_eq_true rfl, Nat.le_of_ble_eq_true rfl⟩) ⟨gblindW, gpreWT (X := wX4 T Ad ta ca fa ga) hWs hE hK hP hD hS hA⟩ rfl rfl hl.1 rfl (lv_room (Nat.le_of_ble_eq_true rfl)) dL_isWord_165 ⟨Nat.le_of_ble_eq_true rfl, Nat.le_of_ble_eq_true rfl⟩) hP hD hS hA wC_fst (fun r9 H locs hw hP hD hS => ?_)
              have hP : va_P G vwCl (wW T Ad AF ta ca fa ga D mny N f g rk rf rg rh) H := hP
              have hD : va_D (va_A (wW T Ad AF ta ca fa ga D mny N f g rk rf rg rh) s.heap.size) (wW T Ad AF ta ca fa ga D mny N f g rk rf rg rh) := hD
              subst hw
              refine gtop (y := (-30)) (wD_30 (show kSign (N j) (nI j) (-1) = 1 by rw [kSign, if_pos (show okI (nI j) 16 = true from okI_nat9 (n := 16) (by omega) (by omega) hj16), c5, e1, if_neg (nI_nm1 (by omega))]; decide)) ?_
              refine lv_bipush (v := (-30)) hx hb dL_isWord_168 (by decide) ?_
              refine lv_icmp_ne (tgt := 243) hx hb dL_isWord_170 (by decide) (fun c170 => ?_) (fun c170 => ?_)
              · exact absurd c170 (by decide)
              · skip
                refine lv_aload_n hx hb dL_isWord_173 rfl (lv_at hl 5 rfl) ?_
                refine lv_iconst (v := 3) hx hb dL_isWord_174 (by decide) ?_
                refine lv_iload_n hx hb dL_isWord_175 rfl (lv_at hl 7 rfl) ?_
                refine lv_iload hx hb dL_isWord_176 (lv_at hl 3 rfl) ?_
                refine gciT (X := wX4 T Ad ta ca fa ga) (vx_runSW (As := [.ref (Ad 1), .int 3, .int (nI j), .int 4]) (rest := []) ⟨hx, hb, hml, hown, hts⟩ (cL_asks_3_okc l hl0 G T aK aV Ad AF D mny N f g rk rf rg rh j 4 _ (by omega) (show kSign (N j) (nI j) 4 = 0 by rw [kSign, if_pos (show okI (nI j) 16 = true from okI_nat9 (n := 16) (by omega) (by omega) hj16), c5, e1, if_neg (nI_nm1 (by omega))]; decide)) (vx_cwSW 4 hts gL_isWord_L_asks rfl rfl rfl (by decide +kernel) ⟨Nat.le_of_ble_eq_true rfl, Nat.le_of_ble_eq_true rfl⟩) ⟨gblindW, gpreWT (X := wX4 T Ad ta ca fa ga) hWs hE hK hP hD hS hA⟩ rfl rfl hl.1 rfl (lv_room (Nat.le_of_ble_eq_true rfl)) dL_isWord_178 ⟨Nat.le_of_ble_eq_true rfl, Nat.le_of_ble_eq_true rfl⟩) hP hD hS hA wC_fst (fun r9 H locs hw hP hD hS => ?_)
                have hP : va_P G vwCl (wW T Ad AF ta ca fa ga D mny N f g rk rf rg rh) H := hP
                have hD : va_D (va_A (wW T Ad AF ta ca fa ga D mny N f g rk rf rg rh) s.heap.size) (wW T Ad AF ta ca fa ga D mny N f g rk rf rg rh) := hD
                subst hw
                refine gtop (y := 58) (by rw [sSign, c5, if_neg (by decide), if_neg (by decide)]) ?_
                refine lv_iload hx hb dL_isWord_181 (lv_at hl 0 rfl) ?_
                refine lv_if_ge (tgt := 191) hx hb dL_isWord_183 (by decide) (fun c183 => ?_) (fun c183 => ?_)
                · skip
                  refine lv_bipush (v := 58) hx hb dL_isWord_191 (by decide) ?_
                  refine lv_icmp_ne (tgt := 243) hx hb dL_isWord_193 (by decide) (fun c193 => ?_) (fun c193 => ?_)
                  · exact absurd c193 (by decide)
                  · skip
                    refine lv_aload_n hx hb dL_isWord_196 rfl (lv_at hl 5 rfl) ?_
                    refine lv_iconst (v := 3) hx hb dL_isWord_197 (by decide) ?_
                    refine lv_iload_n hx hb dL_isWord_198 rfl (lv_at hl 7 rfl) ?_
                    refine lv_iload hx hb dL_isWord_199 (lv_at hl 3 rfl) ?_
                    refine lv_iconst (v := 1) hx hb dL_isWord_201 (by decide) ?_
                    refine lv_iadd hx hb dL_isWord_202 ?_
                    refine gtop (y := 5) (by decide) ?_
                    refine gciT (X := wX4 T Ad ta ca fa ga) (vx_runSW (As := [.ref (Ad 1), .int 3, .int (nI j), .int 5]) (rest := []) ⟨hx, hb, hml, hown, hts⟩ (cL_asks_3_okc l hl0 G T aK aV Ad AF D mny N f g rk rf rg rh j 5 _ (by omega) (show kSign (N j) (nI j) 5 = 0 by rw [kSign, if_pos (show okI (nI j) 16 = true from okI_nat9 (n := 16) (by omega) (by omega) hj16), c5, e1, if_neg (nI_nm1 (by omega))]; decide)) (vx_cwSW 4 hts gL_isWord_L_asks rfl rfl rfl (by decide +kernel) ⟨Nat.le_of_ble_eq_true rfl, Nat.le_of_ble_eq_true rfl⟩) ⟨gblindW, gpreWT (X := wX4 T Ad ta ca fa ga) hWs hE hK hP hD hS hA⟩ rfl rfl hl.1 rfl (lv_room (Nat.le_of_ble_eq_true rfl)) dL_isWord_203 ⟨Nat.le_of_ble_eq_true rfl, Nat.le_of_ble_eq_true rfl⟩) hP hD hS hA wC_fst (fun r9 H locs hw hP hD hS => ?_)
                    have hP : va_P G vwCl (wW T Ad AF ta ca fa ga D mny N f g rk rf rg rh) H := hP
                    have hD : va_D (va_A (wW T Ad AF ta ca fa ga D mny N f g rk rf rg rh) s.heap.size) (wW T Ad AF ta ca fa ga D mny N f g rk rf rg rh) := hD
                    subst hw
                    refine gtop (y := nI (48 + o)) (by rw [sSign, c5, if_neg (by decide), if_pos (by decide), e1]; exact dig9 o ho6) ?_
                    refine lv_iload hx hb dL_isWord_206 (lv_at hl 0 rfl) ?_
                    refine lv_if_ge (tgt := 216) hx hb dL_isWord_208 (by decide) (fun c208 => ?_) (fun c208 => ?_)
                    · skip
                      refine lv_bipush (v := 48) hx hb dL_isWord_216 (by decide) ?_
                      refine lv_iload hx hb dL_isWord_218 (lv_at hl 0 rfl) ?_
                      refine lv_iadd hx hb dL_isWord_220 ?_
                      refine gtop (y := nI (48 + o)) (nI_add 48 o) ?_
                      refine lv_icmp_ne (tgt := 243) hx hb dL_isWord_221 (by decide) (fun c221 => ?_) (fun c221 => ?_)
                      · exact absurd rfl c221
                      · skip
                        refine lv_aload_n hx hb dL_isWord_224 rfl (lv_at hl 5 rfl) ?_
                        refine lv_iconst (v := 3) hx hb dL_isWord_225 (by decide) ?_
                        refine lv_iload_n hx hb dL_isWord_226 rfl (lv_at hl 7 rfl) ?_
                        refine lv_iload hx hb dL_isWord_227 (lv_at hl 3 rfl) ?_
                        refine lv_iconst (v := 2) hx hb dL_isWord_229 (by decide) ?_
                        refine lv_iadd hx hb dL_isWord_230 ?_
                        refine gtop (y := 6) (by decide) ?_
                        refine gciT (X := wX4 T Ad ta ca fa ga) (vx_runSW (As := [.ref (Ad 1), .int 3, .int (nI j), .int 6]) (rest := []) ⟨hx, hb, hml, hown, hts⟩ (cL_asks_3_noc l hl0 G T aK aV Ad AF D mny N f g rk rf rg rh j (nI j) 6 _ (by omega) (fun _ => ⟨rfl, hj16⟩) (fun h9 => absurd (h9.symm.trans (show kSign (N j) (nI j) 6 = 1 by rw [kSign, if_pos (show okI (nI j) 16 = true from okI_nat9 (n := 16) (by omega) (by omega) hj16), c5, e1, if_neg (nI_nm1 (by omega))]; decide)) (by decide))) (vx_cwSW 4 hts gL_isWord_L_asks rfl rfl rfl (by decide +kernel) ⟨Nat.le_of_ble_eq_true rfl, Nat.le_of_ble_eq_true rfl⟩) ⟨gblindW, gpreWT (X := wX4 T Ad ta ca fa ga) hWs hE hK hP hD hS hA⟩ rfl rfl hl.1 rfl (lv_room (Nat.le_of_ble_eq_true rfl)) dL_isWord_231 ⟨Nat.le_of_ble_eq_true rfl, Nat.le_of_ble_eq_true rfl⟩) hP hD hS hA wC_fst (fun r9 H locs hw hP hD hS => ?_)
                        have hP : va_P G vwCl (wW T Ad AF ta ca fa ga D mny N f g rk rf rg rh) H := hP
                        have hD : va_D (va_A (wW T Ad AF ta ca fa ga D mny N f g rk rf rg rh) s.heap.size) (wW T Ad AF ta ca fa ga D mny N f g rk rf rg rh) := hD
                        subst hw
                        refine gtop (y := (-30)) (wD_30 (show kSign (N j) (nI j) 6 = 1 by rw [kSign, if_pos (show okI (nI j) 16 = true from okI_nat9 (n := 16) (by omega) (by omega) hj16), c5, e1, if_neg (nI_nm1 (by omega))]; decide)) ?_
                        refine lv_bipush (v := (-30)) hx hb dL_isWord_234 (by decide) ?_
                        refine lv_icmp_ne (tgt := 243) hx hb dL_isWord_236 (by decide) (fun c236 => ?_) (fun c236 => ?_)
                        · exact absurd c236 (by decide)
                        · skip
                          refine lv_iconst (v := 1) hx hb dL_isWord_239 (by decide) ?_
                          refine lv_goto (tgt := 244) hx hb dL_isWord_240 (by decide) ?_
                          exact W.zret (v := 1) hx hb hr (by decide) (fun t ht9 hW => ⟨⟨1, (), rfl, rfl, gBi ht9 (gfin hP (rfl))⟩, hS.F ht9⟩) hS.2.2 dL_isWord_244
                    · exact absurd (nI_pos' (by omega)) c208
                · exact absurd (nI_pos' (by omega)) c183
      · exact absurd c5 c99
    · exact absurd c5 c51
