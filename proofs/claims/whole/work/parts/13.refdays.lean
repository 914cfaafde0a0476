/-! THE REFERENCE: auctions that close, days that pass, resolvers -/
theorem mO_none {o : Option Nat} (h : eO o = -1) (hb : ∀ b, o = some b → b < 6) : o = none := eO_none h hb
abbrev PX3_bestBut (G : va_G) (T : Nat → ClassId) (x1 : Nat) (A : Nat → Nat) (I1 : Nat → Int32) (F : Nat → Nat → Int32) (j : Nat) (p1 : Int32) (sz : Nat) : Array Value → State → Prop := gPc G T [.ref x1, .int (nI j), .int p1] (cM T x1 A I1 F) sz
abbrev QX3_bestBut (G : va_G) (T : Nat → ClassId) (x1 : Nat) (A : Nat → Nat) (I1 : Nat → Int32) (F : Nat → Nat → Int32) (j : Nat) (p1 : Int32) (sz : Nat) : Array Value → State → Outcome → State → Prop := va_Qi (fun (r : Int32) (_ : Unit) => r = eO (mBest F j p1 6)) (gB G (cM T x1 A I1 F)) (va_A (cM T x1 A I1 F) sz)
set_option maxHeartbeats 4000000 in
set_option maxRecDepth 100000 in
theorem kX3_bestBut (l : Launch) (G : va_G) (T : Nat → ClassId) (x1 : Nat) (A : Nat → Nat) (I1 : Nat → Int32) (F : Nat → Nat → Int32) (j : Nat) (p1 : Int32) (sz : Nat) (hj : j < 16) : Met l yX3_bestBut wsX3_bestBut ({ frames := 0, cells := 0, slots := 0, locals := 0 } : Room) (PX3_bestBut G T x1 A I1 F j p1 sz) (QX3_bestBut G T x1 A I1 F j p1 sz) 0 0 (va_A (cM T x1 A I1 F) sz) := by
  refine Met.ofW (cc := cX3_bestBut) (maxL := 8) (ret := (some .int)) (by decide) rfl ?_
  intro p e s m args below meth c s₁ B hml hv
  obtain ⟨rfl, hsz, hP, hK, hD0, hE⟩ := hv
  have hx := B.exec
  have hb := B.bytes
  have hr := B.returns
  have hts := atoms_spec (ws := wsX3_bestBut) B.pre
  have hown : s.vm.findClass RX3 = some m.cls := findClass_of_methodNamed B.named
  have hlocks := B.notSynchronized
  subst hsz
  have hD := hD0.self (sz := s.heap.size)
  have hA : ∀ q : Nat, s.heap.size ≤ q → (va_A (cM T x1 A I1 F) s.heap.size) q := fun q h => Or.inr h
  have hS : va_S (va_A (cM T x1 A I1 F) s.heap.size) s.heap s.heap [] := va_S.rf
  have hiRX3 : ∀ w ∈ u_ws RX3 TX3 18, w ∈ wsX3_bestBut := by decide +kernel
  have hl := lv_entry ([.ref x1, .int (nI j), .int p1]) (n := 8) (Nat.le_of_ble_eq_true rfl)
  rw [lg_entry_eq]
  generalize (lg_sl ([.ref x1, .int (nI j), .int p1]) ++ List.replicate (8 - (lg_sl ([.ref x1, .int (nI j), .int p1])).length) Slot.unset).toArray = ls at hl ⊢
  have hl : lv_has ls 8 [(0, .ref x1), (1, .int (nI j)), (2, .int p1)] := hl
  have hP : va_P G vwCl (cM T x1 A I1 F) s.heap := hP
  refine lv_iconst (v := (-1)) hx hb dX3_bestBut_0 (by decide) ?_
  refine lv_istore_n (lv' := [(3, .int (-1)), (0, .ref x1), (1, .int (nI j)), (2, .int p1)]) hx hb dX3_bestBut_1 rfl hl (by decide) rfl (fun ls hl => ?_)
  refine lv_iconst (v := 0) hx hb dX3_bestBut_2 (by decide) ?_
  refine lv_istore (lv' := [(4, .int 0), (3, .int (-1)), (0, .ref x1), (1, .int (nI j)), (2, .int p1)]) hx hb dX3_bestBut_3 hl (by decide) rfl (fun ls hl => ?_)
  have J5 : ∀ n9 : Nat, ∀ (i : Nat) (o : Option Nat) (H : Heap) (locs : List Loc) (ls : Array Slot), (i ≤ 6) → (7 ≤ i + n9) → (mBest F j p1 i = o) → (∀ b, o = some b → b < 6) → va_P G vwCl (cM T x1 A I1 F) H → va_D (va_A (cM T x1 A I1 F) s.heap.size) (cM T x1 A I1 F) → va_S (va_A (cM T x1 A I1 F) s.heap.size) s.heap H locs → lv_has ls 8 [(0, .ref x1), (1, .int (nI j)), (2, .int p1), (3, .int (eO o)), (4, .int (nI i))] → W p l e (headSpec wsX3_bestBut ({ frames := 0, cells := 0, slots := 0, locals := 0 } : Room)).room s m ([.ref x1, .int (nI j), .int p1] : List Value).toArray below meth c H locs 0 0 (MQ below (QX3_bestBut G T x1 A I1 F j p1 s.heap.size) ([.ref x1, .int (nI j), .int p1] : List Value).toArray s 0 0 (va_A (cM T x1 A I1 F) s.heap.size)) (F0 m 5 ls []) := by
    intro n9
    induction n9 with
    | zero => intro i o H locs ls hi hm ho hb6 hP hD hS hl; exact absurd (hm) (by omega)
    | succ n9 ih5 =>
      intro i o H locs ls hi hm ho hb6 hP hD hS hl
      refine lv_iload hx hb dX3_bestBut_5 (lv_at hl 4 rfl) ?_
      refine lv_bipush (v := 6) hx hb dX3_bestBut_7 (by decide) ?_
      refine lv_icmp_ge (tgt := 159) hx hb dX3_bestBut_9 (by decide) (fun c9 => ?_) (fun c9 => ?_)
      · skip
        have hge : i = 6 := by
          rcases Nat.lt_or_ge i 6 with q | q
          · exact absurd c9 (nI_ge (b := 6) q (by omega))
          · omega
        refine lv_iload_n hx hb dX3_bestBut_159 rfl (lv_at hl 3 rfl) ?_
        exact W.iret (v := eO o) hx hb hr (fun t ht9 hW => ⟨⟨eO o, (), rfl, by rw [← hge, ho], gBi ht9 (gfin hP (rfl))⟩, hS.F ht9⟩) hS.2.2 dX3_bestBut_160
      · skip
        have hlt : i < 6 := by
          rcases Nat.lt_or_ge i 6 with q | q
          · exact q
          · exact absurd (show (6 : Int32) ≤ nI i from nI_le (a := 6) q (by omega)) c9
        refine lv_bipush (v := 6) hx hb dX3_bestBut_12 (by decide) ?_
        refine lv_iload_n hx hb dX3_bestBut_14 rfl (lv_at hl 1 rfl) ?_
        refine lv_imul hx hb dX3_bestBut_15 ?_
        refine gtop (y := nI (6 * j)) (pk_mul 6 j) ?_
        refine lv_iload hx hb dX3_bestBut_16 (lv_at hl 4 rfl) ?_
        refine lv_iadd hx hb dX3_bestBut_18 ?_
        refine gtop (y := nI ((6 * j) + i)) (nI_add (6 * j) i) ?_
        refine lv_istore (lv' := [(5, .int (nI ((6 * j) + i))), (0, .ref x1), (1, .int (nI j)), (2, .int p1), (3, .int (eO o)), (4, .int (nI i))]) hx hb dX3_bestBut_19 hl (by decide) rfl (fun ls hl => ?_)
        refine lv_iload hx hb dX3_bestBut_21 (lv_at hl 5 rfl) ?_
        refine lv_iload_n hx hb dX3_bestBut_23 rfl (lv_at hl 3 rfl) ?_
        refine lv_icmp_eq (tgt := 58) hx hb dX3_bestBut_24 (by decide) (fun c24 => ?_) (fun c24 => ?_)
        · skip
          refine lv_iconst (v := 0) hx hb dX3_bestBut_58 (by decide) ?_
          refine lv_istore (lv' := [(6, .int 0), (5, .int (nI ((6 * j) + i))), (0, .ref x1), (1, .int (nI j)), (2, .int p1), (3, .int (eO o)), (4, .int (nI i))]) hx hb dX3_bestBut_59 hl (by decide) rfl (fun ls hl => ?_)
          refine lv_iload_n hx hb dX3_bestBut_61 rfl (lv_at hl 5 rfl) ?_
          refine lv_iconst (v := (-1)) hx hb dX3_bestBut_62 (by decide) ?_
          refine lv_icmp_eq (tgt := 129) hx hb dX3_bestBut_63 (by decide) (fun c63 => ?_) (fun c63 => ?_)
          · skip
            have ho2 : o = none := eO_none c63 hb6
            refine lv_iconst (v := 1) hx hb dX3_bestBut_129 (by decide) ?_
            refine lv_goto (tgt := 134) hx hb dX3_bestBut_130 (by decide) ?_
            refine lv_istore (lv' := [(7, .int 1), (6, .int 0), (5, .int (nI ((6 * j) + i))), (0, .ref x1), (1, .int (nI j)), (2, .int p1), (3, .int (eO o)), (4, .int (nI i))]) hx hb dX3_bestBut_134 hl (by decide) rfl (fun ls hl => ?_)
            refine lv_iload hx hb dX3_bestBut_136 (lv_at hl 1 rfl) ?_
            refine lv_if_eq (tgt := 151) hx hb dX3_bestBut_138 (by decide) (fun c138 => ?_) (fun c138 => ?_)
            · skip
              refine lv_iload_n hx hb dX3_bestBut_151 rfl (lv_at hl 6 rfl) ?_
              refine lv_istore_n (lv' := [(3, .int (eO o)), (7, .int 1), (6, .int 0), (5, .int (nI ((6 * j) + i))), (0, .ref x1), (1, .int (nI j)), (2, .int p1), (4, .int (nI i))]) hx hb dX3_bestBut_152 rfl hl (by decide) rfl (fun ls hl => ?_)
              refine lv_iinc (v := nI (i + 1)) (lv' := [(4, .int (nI (i + 1))), (3, .int (eO o)), (7, .int 1), (6, .int 0), (5, .int (nI ((6 * j) + i))), (0, .ref x1), (1, .int (nI j)), (2, .int p1)]) hx hb dX3_bestBut_153 hl (k := 7) rfl (by first | rfl | exact (nI_add i 1)) (by decide) rfl (fun ls hl => ?_)
              refine lv_goto (tgt := 5) hx hb dX3_bestBut_156 (by decide) ?_
              exact ih5 (i + 1) o _ _ _ (by omega) (by omega) (by simp [mBest, ho, eq_false c9, eq_true c24, eq_true c63, eq_true c138, ho2]) hb6 hP hD hS (lv_sub hl [5, 6, 7, 1, 0] rfl)
            · exact absurd c138 (by decide)
          · skip
            obtain ⟨b, ho2, hb7⟩ := eO_some c63 hb6
            refine lv_aload_n hx hb dX3_bestBut_66 rfl (lv_at hl 2 rfl) ?_
            refine va_get (D := G) (ci := 3) (v := .ref (A 11)) (C := RX3) (T := TX3) (N := 18) hx hb hts hiRX3 hown hK hP 0 rfl rfl 11 (by decide) (hts (.fieldLink RX3 37 "NameAuctionModel" "amount" "[I") (by decide +kernel)) (fun _ h9 => h9) rfl dX3_bestBut_67 ?_
            refine lv_iload hx hb dX3_bestBut_70 (lv_at hl 1 rfl) ?_
            refine giald (j := ((6 * j) + i)) hx hb hK hP 10 0 rfl rfl (show (nI ((6 * j) + i) : Int32) = nI ((6 * j) + i) from rfl) (by omega) (by decide) dX3_bestBut_72 ?_
            refine lv_aload_n hx hb dX3_bestBut_73 rfl (lv_at hl 2 rfl) ?_
            refine va_get (D := G) (ci := 3) (v := .ref (A 11)) (C := RX3) (T := TX3) (N := 18) hx hb hts hiRX3 hown hK hP 0 rfl rfl 11 (by decide) (hts (.fieldLink RX3 37 "NameAuctionModel" "amount" "[I") (by decide +kernel)) (fun _ h9 => h9) rfl dX3_bestBut_74 ?_
            refine lv_bipush (v := 6) hx hb dX3_bestBut_77 (by decide) ?_
            refine lv_iload_n hx hb dX3_bestBut_79 rfl (lv_at hl 3 rfl) ?_
            refine lv_imul hx hb dX3_bestBut_80 ?_
            refine gtop (y := nI (6 * j)) (pk_mul 6 j) ?_
            refine lv_iload_n hx hb dX3_bestBut_81 rfl (lv_at hl 5 rfl) ?_
            refine gtop (y := nI b) (by rw [ho2]; rfl) ?_
            refine lv_iadd hx hb dX3_bestBut_82 ?_
            refine gtop (y := nI ((6 * j) + b)) (nI_add (6 * j) b) ?_
            refine giald (j := ((6 * j) + b)) hx hb hK hP 10 0 rfl rfl (show (nI ((6 * j) + b) : Int32) = nI ((6 * j) + b) from rfl) (by omega) (by decide) dX3_bestBut_83 ?_
            refine lv_icmp_gt (tgt := 129) hx hb dX3_bestBut_84 (by decide) (fun c84 => ?_) (fun c84 => ?_)
            · skip
              refine lv_iconst (v := 1) hx hb dX3_bestBut_129 (by decide) ?_
              refine lv_goto (tgt := 134) hx hb dX3_bestBut_130 (by decide) ?_
              refine lv_istore (lv' := [(7, .int 1), (6, .int 0), (5, .int (nI ((6 * j) + i))), (0, .ref x1), (1, .int (nI j)), (2, .int p1), (3, .int (eO o)), (4, .int (nI i))]) hx hb dX3_bestBut_134 hl (by decide) rfl (fun ls hl => ?_)
              refine lv_iload hx hb dX3_bestBut_136 (lv_at hl 1 rfl) ?_
              refine lv_if_eq (tgt := 151) hx hb dX3_bestBut_138 (by decide) (fun c138 => ?_) (fun c138 => ?_)
              · skip
                refine lv_iload_n hx hb dX3_bestBut_151 rfl (lv_at hl 6 rfl) ?_
                refine lv_istore_n (lv' := [(3, .int (eO o)), (7, .int 1), (6, .int 0), (5, .int (nI ((6 * j) + i))), (0, .ref x1), (1, .int (nI j)), (2, .int p1), (4, .int (nI i))]) hx hb dX3_bestBut_152 rfl hl (by decide) rfl (fun ls hl => ?_)
                refine lv_iinc (v := nI (i + 1)) (lv' := [(4, .int (nI (i + 1))), (3, .int (eO o)), (7, .int 1), (6, .int 0), (5, .int (nI ((6 * j) + i))), (0, .ref x1), (1, .int (nI j)), (2, .int p1)]) hx hb dX3_bestBut_153 hl (k := 7) rfl (by first | rfl | exact (nI_add i 1)) (by decide) rfl (fun ls hl => ?_)
                refine lv_goto (tgt := 5) hx hb dX3_bestBut_156 (by decide) ?_
                exact ih5 (i + 1) o _ _ _ (by omega) (by omega) (by simp [mBest, ho, eq_false c9, eq_true c24, eq_false c63, eq_true c84, eq_true c138, ho2]) hb6 hP hD hS (lv_sub hl [5, 6, 7, 1, 0] rfl)
              · exact absurd c138 (by decide)
            · skip
              refine lv_aload_n hx hb dX3_bestBut_87 rfl (lv_at hl 2 rfl) ?_
              refine va_get (D := G) (ci := 3) (v := .ref (A 11)) (C := RX3) (T := TX3) (N := 18) hx hb hts hiRX3 hown hK hP 0 rfl rfl 11 (by decide) (hts (.fieldLink RX3 37 "NameAuctionModel" "amount" "[I") (by decide +kernel)) (fun _ h9 => h9) rfl dX3_bestBut_88 ?_
              refine lv_iload hx hb dX3_bestBut_91 (lv_at hl 1 rfl) ?_
              refine giald (j := ((6 * j) + i)) hx hb hK hP 10 0 rfl rfl (show (nI ((6 * j) + i) : Int32) = nI ((6 * j) + i) from rfl) (by omega) (by decide) dX3_bestBut_93 ?_
              refine lv_aload_n hx hb dX3_bestBut_94 rfl (lv_at hl 2 rfl) ?_
              refine va_get (D := G) (ci := 3) (v := .ref (A 11)) (C := RX3) (T := TX3) (N := 18) hx hb hts hiRX3 hown hK hP 0 rfl rfl 11 (by decide) (hts (.fieldLink RX3 37 "NameAuctionModel" "amount" "[I") (by decide +kernel)) (fun _ h9 => h9) rfl dX3_bestBut_95 ?_
              refine lv_bipush (v := 6) hx hb dX3_bestBut_98 (by decide) ?_
              refine lv_iload_n hx hb dX3_bestBut_100 rfl (lv_at hl 3 rfl) ?_
              refine lv_imul hx hb dX3_bestBut_101 ?_
              refine gtop (y := nI (6 * j)) (pk_mul 6 j) ?_
              refine lv_iload_n hx hb dX3_bestBut_102 rfl (lv_at hl 5 rfl) ?_
              refine gtop (y := nI b) (by rw [ho2]; rfl) ?_
              refine lv_iadd hx hb dX3_bestBut_103 ?_
              refine gtop (y := nI ((6 * j) + b)) (nI_add (6 * j) b) ?_
              refine giald (j := ((6 * j) + b)) hx hb hK hP 10 0 rfl rfl (show (nI ((6 * j) + b) : Int32) = nI ((6 * j) + b) from rfl) (by omega) (by decide) dX3_bestBut_104 ?_
              refine lv_icmp_ne (tgt := 133) hx hb dX3_bestBut_105 (by decide) (fun c105 => ?_) (fun c105 => ?_)
              · skip
                refine lv_iconst (v := 0) hx hb dX3_bestBut_133 (by decide) ?_
                refine lv_istore (lv' := [(7, .int 0), (6, .int 0), (5, .int (nI ((6 * j) + i))), (0, .ref x1), (1, .int (nI j)), (2, .int p1), (3, .int (eO o)), (4, .int (nI i))]) hx hb dX3_bestBut_134 hl (by decide) rfl (fun ls hl => ?_)
                refine lv_iload hx hb dX3_bestBut_136 (lv_at hl 1 rfl) ?_
                refine lv_if_eq (tgt := 151) hx hb dX3_bestBut_138 (by decide) (fun c138 => ?_) (fun c138 => ?_)
                · skip
                  refine lv_iload_n hx hb dX3_bestBut_151 rfl (lv_at hl 6 rfl) ?_
                  refine lv_istore_n (lv' := [(3, .int (eO o)), (7, .int 0), (6, .int 0), (5, .int (nI ((6 * j) + i))), (0, .ref x1), (1, .int (nI j)), (2, .int p1), (4, .int (nI i))]) hx hb dX3_bestBut_152 rfl hl (by decide) rfl (fun ls hl => ?_)
                  refine lv_iinc (v := nI (i + 1)) (lv' := [(4, .int (nI (i + 1))), (3, .int (eO o)), (7, .int 0), (6, .int 0), (5, .int (nI ((6 * j) + i))), (0, .ref x1), (1, .int (nI j)), (2, .int p1)]) hx hb dX3_bestBut_153 hl (k := 7) rfl (by first | rfl | exact (nI_add i 1)) (by decide) rfl (fun ls hl => ?_)
                  refine lv_goto (tgt := 5) hx hb dX3_bestBut_156 (by decide) ?_
                  exact ih5 (i + 1) o _ _ _ (by omega) (by omega) (by simp [mBest, ho, eq_false c9, eq_true c24, eq_false c63, eq_false c84, eq_false c105, eq_true c138, ho2]) hb6 hP hD hS (lv_sub hl [5, 6, 7, 1, 0] rfl)
                · exact absurd c138 (by decide)
              · skip
                refine lv_aload_n hx hb dX3_bestBut_108 rfl (lv_at hl 2 rfl) ?_
                refine va_get (D := G) (ci := 3) (v := .ref (A 12)) (C := RX3) (T := TX3) (N := 18) hx hb hts hiRX3 hown hK hP 0 rfl rfl 12 (by decide) (hts (.fieldLink RX3 40 "NameAuctionModel" "came" "[I") (by decide +kernel)) (fun _ h9 => h9) rfl dX3_bestBut_109 ?_
                refine lv_iload hx hb dX3_bestBut_112 (lv_at hl 1 rfl) ?_
                refine giald (j := ((6 * j) + i)) hx hb hK hP 11 0 rfl rfl (show (nI ((6 * j) + i) : Int32) = nI ((6 * j) + i) from rfl) (by omega) (by decide) dX3_bestBut_114 ?_
                refine lv_aload_n hx hb dX3_bestBut_115 rfl (lv_at hl 2 rfl) ?_
                refine va_get (D := G) (ci := 3) (v := .ref (A 12)) (C := RX3) (T := TX3) (N := 18) hx hb hts hiRX3 hown hK hP 0 rfl rfl 12 (by decide) (hts (.fieldLink RX3 40 "NameAuctionModel" "came" "[I") (by decide +kernel)) (fun _ h9 => h9) rfl dX3_bestBut_116 ?_
                refine lv_bipush (v := 6) hx hb dX3_bestBut_119 (by decide) ?_
                refine lv_iload_n hx hb dX3_bestBut_121 rfl (lv_at hl 3 rfl) ?_
                refine lv_imul hx hb dX3_bestBut_122 ?_
                refine gtop (y := nI (6 * j)) (pk_mul 6 j) ?_
                refine lv_iload_n hx hb dX3_bestBut_123 rfl (lv_at hl 5 rfl) ?_
                refine gtop (y := nI b) (by rw [ho2]; rfl) ?_
                refine lv_iadd hx hb dX3_bestBut_124 ?_
                refine gtop (y := nI ((6 * j) + b)) (nI_add (6 * j) b) ?_
                refine giald (j := ((6 * j) + b)) hx hb hK hP 11 0 rfl rfl (show (nI ((6 * j) + b) : Int32) = nI ((6 * j) + b) from rfl) (by omega) (by decide) dX3_bestBut_125 ?_
                refine lv_icmp_ge (tgt := 133) hx hb dX3_bestBut_126 (by decide) (fun c126 => ?_) (fun c126 => ?_)
                · skip
                  refine lv_iconst (v := 0) hx hb dX3_bestBut_133 (by decide) ?_
                  refine lv_istore (lv' := [(7, .int 0), (6, .int 0), (5, .int (nI ((6 * j) + i))), (0, .ref x1), (1, .int (nI j)), (2, .int p1), (3, .int (eO o)), (4, .int (nI i))]) hx hb dX3_bestBut_134 hl (by decide) rfl (fun ls hl => ?_)
                  refine lv_iload hx hb dX3_bestBut_136 (lv_at hl 1 rfl) ?_
                  refine lv_if_eq (tgt := 151) hx hb dX3_bestBut_138 (by decide) (fun c138 => ?_) (fun c138 => ?_)
                  · skip
                    refine lv_iload_n hx hb dX3_bestBut_151 rfl (lv_at hl 6 rfl) ?_
                    refine lv_istore_n (lv' := [(3, .int (eO o)), (7, .int 0), (6, .int 0), (5, .int (nI ((6 * j) + i))), (0, .ref x1), (1, .int (nI j)), (2, .int p1), (4, .int (nI i))]) hx hb dX3_bestBut_152 rfl hl (by decide) rfl (fun ls hl => ?_)
                    refine lv_iinc (v := nI (i + 1)) (lv' := [(4, .int (nI (i + 1))), (3, .int (eO o)), (7, .int 0), (6, .int 0), (5, .int (nI ((6 * j) + i))), (0, .ref x1), (1, .int (nI j)), (2, .int p1)]) hx hb dX3_bestBut_153 hl (k := 7) rfl (by first | rfl | exact (nI_add i 1)) (by decide) rfl (fun ls hl => ?_)
                    refine lv_goto (tgt := 5) hx hb dX3_bestBut_156 (by decide) ?_
                    exact ih5 (i + 1) o _ _ _ (by omega) (by omega) (by simp [mBest, ho, eq_false c9, eq_true c24, eq_false c63, eq_false c84, eq_true c105, eq_true c126, eq_true c138, ho2]) hb6 hP hD hS (lv_sub hl [5, 6, 7, 1, 0] rfl)
                  · exact absurd c138 (by decide)
                · skip
                  refine lv_iconst (v := 1) hx hb dX3_bestBut_129 (by decide) ?_
                  refine lv_goto (tgt := 134) hx hb dX3_bestBut_130 (by decide) ?_
                  refine lv_istore (lv' := [(7, .int 1), (6, .int 0), (5, .int (nI ((6 * j) + i))), (0, .ref x1), (1, .int (nI j)), (2, .int p1), (3, .int (eO o)), (4, .int (nI i))]) hx hb dX3_bestBut_134 hl (by decide) rfl (fun ls hl => ?_)
                  refine lv_iload hx hb dX3_bestBut_136 (lv_at hl 1 rfl) ?_
                  refine lv_if_eq (tgt := 151) hx hb dX3_bestBut_138 (by decide) (fun c138 => ?_) (fun c138 => ?_)
                  · skip
                    refine lv_iload_n hx hb dX3_bestBut_151 rfl (lv_at hl 6 rfl) ?_
                    refine lv_istore_n (lv' := [(3, .int (eO o)), (7, .int 1), (6, .int 0), (5, .int (nI ((6 * j) + i))), (0, .ref x1), (1, .int (nI j)), (2, .int p1), (4, .int (nI i))]) hx hb dX3_bestBut_152 rfl hl (by decide) rfl (fun ls hl => ?_)
                    refine lv_iinc (v := nI (i + 1)) (lv' := [(4, .int (nI (i + 1))), (3, .int (eO o)), (7, .int 1), (6, .int 0), (5, .int (nI ((6 * j) + i))), (0, .ref x1), (1, .int (nI j)), (2, .int p1)]) hx hb dX3_bestBut_153 hl (k := 7) rfl (by first | rfl | exact (nI_add i 1)) (by decide) rfl (fun ls hl => ?_)
                    refine lv_goto (tgt := 5) hx hb dX3_bestBut_156 (by decide) ?_
                    exact ih5 (i + 1) o _ _ _ (by omega) (by omega) (by simp [mBest, ho, eq_false c9, eq_true c24, eq_false c63, eq_false c84, eq_true c105, eq_false c126, eq_true c138, ho2]) hb6 hP hD hS (lv_sub hl [5, 6, 7, 1, 0] rfl)
                  · exact absurd c138 (by decide)
        · skip
          refine lv_aload_n hx hb dX3_bestBut_27 rfl (lv_at hl 1 rfl) ?_
          refine va_get (D := G) (ci := 3) (v := .ref (A 11)) (C := RX3) (T := TX3) (N := 18) hx hb hts hiRX3 hown hK hP 0 rfl rfl 11 (by decide) (hts (.fieldLink RX3 37 "NameAuctionModel" "amount" "[I") (by decide +kernel)) (fun _ h9 => h9) rfl dX3_bestBut_28 ?_
          refine lv_iload hx hb dX3_bestBut_31 (lv_at hl 0 rfl) ?_
          refine giald (j := ((6 * j) + i)) hx hb hK hP 10 0 rfl rfl (show (nI ((6 * j) + i) : Int32) = nI ((6 * j) + i) from rfl) (by omega) (by decide) dX3_bestBut_33 ?_
          refine lv_if_le (tgt := 58) hx hb dX3_bestBut_34 (by decide) (fun c34 => ?_) (fun c34 => ?_)
          · skip
            refine lv_iconst (v := 0) hx hb dX3_bestBut_58 (by decide) ?_
            refine lv_istore (lv' := [(6, .int 0), (5, .int (nI ((6 * j) + i))), (0, .ref x1), (1, .int (nI j)), (2, .int p1), (3, .int (eO o)), (4, .int (nI i))]) hx hb dX3_bestBut_59 hl (by decide) rfl (fun ls hl => ?_)
            refine lv_iload_n hx hb dX3_bestBut_61 rfl (lv_at hl 5 rfl) ?_
            refine lv_iconst (v := (-1)) hx hb dX3_bestBut_62 (by decide) ?_
            refine lv_icmp_eq (tgt := 129) hx hb dX3_bestBut_63 (by decide) (fun c63 => ?_) (fun c63 => ?_)
            · skip
              have ho2 : o = none := eO_none c63 hb6
              refine lv_iconst (v := 1) hx hb dX3_bestBut_129 (by decide) ?_
              refine lv_goto (tgt := 134) hx hb dX3_bestBut_130 (by decide) ?_
              refine lv_istore (lv' := [(7, .int 1), (6, .int 0), (5, .int (nI ((6 * j) + i))), (0, .ref x1), (1, .int (nI j)), (2, .int p1), (3, .int (eO o)), (4, .int (nI i))]) hx hb dX3_bestBut_134 hl (by decide) rfl (fun ls hl => ?_)
              refine lv_iload hx hb dX3_bestBut_136 (lv_at hl 1 rfl) ?_
              refine lv_if_eq (tgt := 151) hx hb dX3_bestBut_138 (by decide) (fun c138 => ?_) (fun c138 => ?_)
              · skip
                refine lv_iload_n hx hb dX3_bestBut_151 rfl (lv_at hl 6 rfl) ?_
                refine lv_istore_n (lv' := [(3, .int (eO o)), (7, .int 1), (6, .int 0), (5, .int (nI ((6 * j) + i))), (0, .ref x1), (1, .int (nI j)), (2, .int p1), (4, .int (nI i))]) hx hb dX3_bestBut_152 rfl hl (by decide) rfl (fun ls hl => ?_)
                refine lv_iinc (v := nI (i + 1)) (lv' := [(4, .int (nI (i + 1))), (3, .int (eO o)), (7, .int 1), (6, .int 0), (5, .int (nI ((6 * j) + i))), (0, .ref x1), (1, .int (nI j)), (2, .int p1)]) hx hb dX3_bestBut_153 hl (k := 7) rfl (by first | rfl | exact (nI_add i 1)) (by decide) rfl (fun ls hl => ?_)
                refine lv_goto (tgt := 5) hx hb dX3_bestBut_156 (by decide) ?_
                exact ih5 (i + 1) o _ _ _ (by omega) (by omega) (by simp [mBest, ho, eq_false c9, eq_false c24, eq_true c34, eq_true c63, eq_true c138, ho2]) hb6 hP hD hS (lv_sub hl [5, 6, 7, 1, 0] rfl)
              · exact absurd c138 (by decide)
            · skip
              obtain ⟨b, ho2, hb7⟩ := eO_some c63 hb6
              refine lv_aload_n hx hb dX3_bestBut_66 rfl (lv_at hl 2 rfl) ?_
              refine va_get (D := G) (ci := 3) (v := .ref (A 11)) (C := RX3) (T := TX3) (N := 18) hx hb hts hiRX3 hown hK hP 0 rfl rfl 11 (by decide) (hts (.fieldLink RX3 37 "NameAuctionModel" "amount" "[I") (by decide +kernel)) (fun _ h9 => h9) rfl dX3_bestBut_67 ?_
              refine lv_iload hx hb dX3_bestBut_70 (lv_at hl 1 rfl) ?_
              refine giald (j := ((6 * j) + i)) hx hb hK hP 10 0 rfl rfl (show (nI ((6 * j) + i) : Int32) = nI ((6 * j) + i) from rfl) (by omega) (by decide) dX3_bestBut_72 ?_
              refine lv_aload_n hx hb dX3_bestBut_73 rfl (lv_at hl 2 rfl) ?_
              refine va_get (D := G) (ci := 3) (v := .ref (A 11)) (C := RX3) (T := TX3) (N := 18) hx hb hts hiRX3 hown hK hP 0 rfl rfl 11 (by decide) (hts (.fieldLink RX3 37 "NameAuctionModel" "amount" "[I") (by decide +kernel)) (fun _ h9 => h9) rfl dX3_bestBut_74 ?_
              refine lv_bipush (v := 6) hx hb dX3_bestBut_77 (by decide) ?_
              refine lv_iload_n hx hb dX3_bestBut_79 rfl (lv_at hl 3 rfl) ?_
              refine lv_imul hx hb dX3_bestBut_80 ?_
              refine gtop (y := nI (6 * j)) (pk_mul 6 j) ?_
              refine lv_iload_n hx hb dX3_bestBut_81 rfl (lv_at hl 5 rfl) ?_
              refine gtop (y := nI b) (by rw [ho2]; rfl) ?_
              refine lv_iadd hx hb dX3_bestBut_82 ?_
              refine gtop (y := nI ((6 * j) + b)) (nI_add (6 * j) b) ?_
              refine giald (j := ((6 * j) + b)) hx hb hK hP 10 0 rfl rfl (show (nI ((6 * j) + b) : Int32) = nI ((6 * j) + b) from rfl) (by omega) (by decide) dX3_bestBut_83 ?_
              refine lv_icmp_gt (tgt := 129) hx hb dX3_bestBut_84 (by decide) (fun c84 => ?_) (fun c84 => ?_)
              · skip
                refine lv_iconst (v := 1) hx hb dX3_bestBut_129 (by decide) ?_
                refine lv_goto (tgt := 134) hx hb dX3_bestBut_130 (by decide) ?_
                refine lv_istore (lv' := [(7, .int 1), (6, .int 0), (5, .int (nI ((6 * j) + i))), (0, .ref x1), (1, .int (nI j)), (2, .int p1), (3, .int (eO o)), (4, .int (nI i))]) hx hb dX3_bestBut_134 hl (by decide) rfl (fun ls hl => ?_)
                refine lv_iload hx hb dX3_bestBut_136 (lv_at hl 1 rfl) ?_
                refine lv_if_eq (tgt := 151) hx hb dX3_bestBut_138 (by decide) (fun c138 => ?_) (fun c138 => ?_)
                · skip
                  refine lv_iload_n hx hb dX3_bestBut_151 rfl (lv_at hl 6 rfl) ?_
                  refine lv_istore_n (lv' := [(3, .int (eO o)), (7, .int 1), (6, .int 0), (5, .int (nI ((6 * j) + i))), (0, .ref x1), (1, .int (nI j)), (2, .int p1), (4, .int (nI i))]) hx hb dX3_bestBut_152 rfl hl (by decide) rfl (fun ls hl => ?_)
                  refine lv_iinc (v := nI (i + 1)) (lv' := [(4, .int (nI (i + 1))), (3, .int (eO o)), (7, .int 1), (6, .int 0), (5, .int (nI ((6 * j) + i))), (0, .ref x1), (1, .int (nI j)), (2, .int p1)]) hx hb dX3_bestBut_153 hl (k := 7) rfl (by first | rfl | exact (nI_add i 1)) (by decide) rfl (fun ls hl => ?_)
                  refine lv_goto (tgt := 5) hx hb dX3_bestBut_156 (by decide) ?_
                  exact ih5 (i + 1) o _ _ _ (by omega) (by omega) (by simp [mBest, ho, eq_false c9, eq_false c24, eq_true c34, eq_false c63, eq_true c84, eq_true c138, ho2]) hb6 hP hD hS (lv_sub hl [5, 6, 7, 1, 0] rfl)
                · exact absurd c138 (by decide)
              · skip
                refine lv_aload_n hx hb dX3_bestBut_87 rfl (lv_at hl 2 rfl) ?_
                refine va_get (D := G) (ci := 3) (v := .ref (A 11)) (C := RX3) (T := TX3) (N := 18) hx hb hts hiRX3 hown hK hP 0 rfl rfl 11 (by decide) (hts (.fieldLink RX3 37 "NameAuctionModel" "amount" "[I") (by decide +kernel)) (fun _ h9 => h9) rfl dX3_bestBut_88 ?_
                refine lv_iload hx hb dX3_bestBut_91 (lv_at hl 1 rfl) ?_
                refine giald (j := ((6 * j) + i)) hx hb hK hP 10 0 rfl rfl (show (nI ((6 * j) + i) : Int32) = nI ((6 * j) + i) from rfl) (by omega) (by decide) dX3_bestBut_93 ?_
                refine lv_aload_n hx hb dX3_bestBut_94 rfl (lv_at hl 2 rfl) ?_
                refine va_get (D := G) (ci := 3) (v := .ref (A 11)) (C := RX3) (T := TX3) (N := 18) hx hb hts hiRX3 hown hK hP 0 rfl rfl 11 (by decide) (hts (.fieldLink RX3 37 "NameAuctionModel" "amount" "[I") (by decide +kernel)) (fun _ h9 => h9) rfl dX3_bestBut_95 ?_
                refine lv_bipush (v := 6) hx hb dX3_bestBut_98 (by decide) ?_
                refine lv_iload_n hx hb dX3_bestBut_100 rfl (lv_at hl 3 rfl) ?_
                refine lv_imul hx hb dX3_bestBut_101 ?_
                refine gtop (y := nI (6 * j)) (pk_mul 6 j) ?_
                refine lv_iload_n hx hb dX3_bestBut_102 rfl (lv_at hl 5 rfl) ?_
                refine gtop (y := nI b) (by rw [ho2]; rfl) ?_
                refine lv_iadd hx hb dX3_bestBut_103 ?_
                refine gtop (y := nI ((6 * j) + b)) (nI_add (6 * j) b) ?_
                refine giald (j := ((6 * j) + b)) hx hb hK hP 10 0 rfl rfl (show (nI ((6 * j) + b) : Int32) = nI ((6 * j) + b) from rfl) (by omega) (by decide) dX3_bestBut_104 ?_
                refine lv_icmp_ne (tgt := 133) hx hb dX3_bestBut_105 (by decide) (fun c105 => ?_) (fun c105 => ?_)
                · skip
                  refine lv_iconst (v := 0) hx hb dX3_bestBut_133 (by decide) ?_
                  refine lv_istore (lv' := [(7, .int 0), (6, .int 0), (5, .int (nI ((6 * j) + i))), (0, .ref x1), (1, .int (nI j)), (2, .int p1), (3, .int (eO o)), (4, .int (nI i))]) hx hb dX3_bestBut_134 hl (by decide) rfl (fun ls hl => ?_)
                  refine lv_iload hx hb dX3_bestBut_136 (lv_at hl 1 rfl) ?_
                  refine lv_if_eq (tgt := 151) hx hb dX3_bestBut_138 (by decide) (fun c138 => ?_) (fun c138 => ?_)
                  · skip
                    refine lv_iload_n hx hb dX3_bestBut_151 rfl (lv_at hl 6 rfl) ?_
                    refine lv_istore_n (lv' := [(3, .int (eO o)), (7, .int 0), (6, .int 0), (5, .int (nI ((6 * j) + i))), (0, .ref x1), (1, .int (nI j)), (2, .int p1), (4, .int (nI i))]) hx hb dX3_bestBut_152 rfl hl (by decide) rfl (fun ls hl => ?_)
                    refine lv_iinc (v := nI (i + 1)) (lv' := [(4, .int (nI (i + 1))), (3, .int (eO o)), (7, .int 0), (6, .int 0), (5, .int (nI ((6 * j) + i))), (0, .ref x1), (1, .int (nI j)), (2, .int p1)]) hx hb dX3_bestBut_153 hl (k := 7) rfl (by first | rfl | exact (nI_add i 1)) (by decide) rfl (fun ls hl => ?_)
                    refine lv_goto (tgt := 5) hx hb dX3_bestBut_156 (by decide) ?_
                    exact ih5 (i + 1) o _ _ _ (by omega) (by omega) (by simp [mBest, ho, eq_false c9, eq_false c24, eq_true c34, eq_false c63, eq_false c84, eq_false c105, eq_true c138, ho2]) hb6 hP hD hS (lv_sub hl [5, 6, 7, 1, 0] rfl)
                  · exact absurd c138 (by decide)
                · skip
                  refine lv_aload_n hx hb dX3_bestBut_108 rfl (lv_at hl 2 rfl) ?_
                  refine va_get (D := G) (ci := 3) (v := .ref (A 12)) (C := RX3) (T := TX3) (N := 18) hx hb hts hiRX3 hown hK hP 0 rfl rfl 12 (by decide) (hts (.fieldLink RX3 40 "NameAuctionModel" "came" "[I") (by decide +kernel)) (fun _ h9 => h9) rfl dX3_bestBut_109 ?_
                  refine lv_iload hx hb dX3_bestBut_112 (lv_at hl 1 rfl) ?_
                  refine giald (j := ((6 * j) + i)) hx hb hK hP 11 0 rfl rfl (show (nI ((6 * j) + i) : Int32) = nI ((6 * j) + i) from rfl) (by omega) (by decide) dX3_bestBut_114 ?_
                  refine lv_aload_n hx hb dX3_bestBut_115 rfl (lv_at hl 2 rfl) ?_
                  refine va_get (D := G) (ci := 3) (v := .ref (A 12)) (C := RX3) (T := TX3) (N := 18) hx hb hts hiRX3 hown hK hP 0 rfl rfl 12 (by decide) (hts (.fieldLink RX3 40 "NameAuctionModel" "came" "[I") (by decide +kernel)) (fun _ h9 => h9) rfl dX3_bestBut_116 ?_
                  refine lv_bipush (v := 6) hx hb dX3_bestBut_119 (by decide) ?_
                  refine lv_iload_n hx hb dX3_bestBut_121 rfl (lv_at hl 3 rfl) ?_
                  refine lv_imul hx hb dX3_bestBut_122 ?_
                  refine gtop (y := nI (6 * j)) (pk_mul 6 j) ?_
                  refine lv_iload_n hx hb dX3_bestBut_123 rfl (lv_at hl 5 rfl) ?_
                  refine gtop (y := nI b) (by rw [ho2]; rfl) ?_
                  refine lv_iadd hx hb dX3_bestBut_124 ?_
                  refine gtop (y := nI ((6 * j) + b)) (nI_add (6 * j) b) ?_
                  refine giald (j := ((6 * j) + b)) hx hb hK hP 11 0 rfl rfl (show (nI ((6 * j) + b) : Int32) = nI ((6 * j) + b) from rfl) (by omega) (by decide) dX3_bestBut_125 ?_
                  refine lv_icmp_ge (tgt := 133) hx hb dX3_bestBut_126 (by decide) (fun c126 => ?_) (fun c126 => ?_)
                  · skip
                    refine lv_iconst (v := 0) hx hb dX3_bestBut_133 (by decide) ?_
                    refine lv_istore (lv' := [(7, .int 0), (6, .int 0), (5, .int (nI ((6 * j) + i))), (0, .ref x1), (1, .int (nI j)), (2, .int p1), (3, .int (eO o)), (4, .int (nI i))]) hx hb dX3_bestBut_134 hl (by decide) rfl (fun ls hl => ?_)
                    refine lv_iload hx hb dX3_bestBut_136 (lv_at hl 1 rfl) ?_
                    refine lv_if_eq (tgt := 151) hx hb dX3_bestBut_138 (by decide) (fun c138 => ?_) (fun c138 => ?_)
                    · skip
                      refine lv_iload_n hx hb dX3_bestBut_151 rfl (lv_at hl 6 rfl) ?_
                      refine lv_istore_n (lv' := [(3, .int (eO o)), (7, .int 0), (6, .int 0), (5, .int (nI ((6 * j) + i))), (0, .ref x1), (1, .int (nI j)), (2, .int p1), (4, .int (nI i))]) hx hb dX3_bestBut_152 rfl hl (by decide) rfl (fun ls hl => ?_)
                      refine lv_iinc (v := nI (i + 1)) (lv' := [(4, .int (nI (i + 1))), (3, .int (eO o)), (7, .int 0), (6, .int 0), (5, .int (nI ((6 * j) + i))), (0, .ref x1), (1, .int (nI j)), (2, .int p1)]) hx hb dX3_bestBut_153 hl (k := 7) rfl (by first | rfl | exact (nI_add i 1)) (by decide) rfl (fun ls hl => ?_)
                      refine lv_goto (tgt := 5) hx hb dX3_bestBut_156 (by decide) ?_
                      exact ih5 (i + 1) o _ _ _ (by omega) (by omega) (by simp [mBest, ho, eq_false c9, eq_false c24, eq_true c34, eq_false c63, eq_false c84, eq_true c105, eq_true c126, eq_true c138, ho2]) hb6 hP hD hS (lv_sub hl [5, 6, 7, 1, 0] rfl)
                    · exact absurd c138 (by decide)
                  · skip
                    refine lv_iconst (v := 1) hx hb dX3_bestBut_129 (by decide) ?_
                    refine lv_goto (tgt := 134) hx hb dX3_bestBut_130 (by decide) ?_
                    refine lv_istore (lv' := [(7, .int 1), (6, .int 0), (5, .int (nI ((6 * j) + i))), (0, .ref x1), (1, .int (nI j)), (2, .int p1), (3, .int (eO o)), (4, .int (nI i))]) hx hb dX3_bestBut_134 hl (by decide) rfl (fun ls hl => ?_)
                    refine lv_iload hx hb dX3_bestBut_136 (lv_at hl 1 rfl) ?_
                    refine lv_if_eq (tgt := 151) hx hb dX3_bestBut_138 (by decide) (fun c138 => ?_) (fun c138 => ?_)
                    · skip
                      refine lv_iload_n hx hb dX3_bestBut_151 rfl (lv_at hl 6 rfl) ?_
                      refine lv_istore_n (lv' := [(3, .int (eO o)), (7, .int 1), (6, .int 0), (5, .int (nI ((6 * j) + i))), (0, .ref x1), (1, .int (nI j)), (2, .int p1), (4, .int (nI i))]) hx hb dX3_bestBut_152 rfl hl (by decide) rfl (fun ls hl => ?_)
                      refine lv_iinc (v := nI (i + 1)) (lv' := [(4, .int (nI (i + 1))), (3, .int (eO o)), (7, .int 1), (6, .int 0), (5, .int (nI ((6 * j) + i))), (0, .ref x1), (1, .int (nI j)), (2, .int p1)]) hx hb dX3_bestBut_153 hl (k := 7) rfl (by first | rfl | exact (nI_add i 1)) (by decide) rfl (fun ls hl => ?_)
                      refine lv_goto (tgt := 5) hx hb dX3_bestBut_156 (by decide) ?_
                      exact ih5 (i + 1) o _ _ _ (by omega) (by omega) (by simp [mBest, ho, eq_false c9, eq_false c24, eq_true c34, eq_false c63, eq_false c84, eq_true c105, eq_false c126, eq_true c138, ho2]) hb6 hP hD hS (lv_sub hl [5, 6, 7, 1, 0] rfl)
                    · exact absurd c138 (by decide)
          · skip
            refine lv_aload_n hx hb dX3_bestBut_37 rfl (lv_at hl 1 rfl) ?_
            refine va_get (D := G) (ci := 3) (v := .ref (A 2)) (C := RX3) (T := TX3) (N := 18) hx hb hts hiRX3 hown hK hP 0 rfl rfl 2 (by decide) (hts (.fieldLink RX3 7 "NameAuctionModel" "funds" "[I") (by decide +kernel)) (fun _ h9 => h9) rfl dX3_bestBut_38 ?_
            refine lv_iload hx hb dX3_bestBut_41 (lv_at hl 5 rfl) ?_
            refine giald (j := i) hx hb hK hP 1 0 rfl rfl (show (nI i : Int32) = nI i from rfl) (by omega) (by decide) dX3_bestBut_43 ?_
            refine lv_aload_n hx hb dX3_bestBut_44 rfl (lv_at hl 1 rfl) ?_
            refine va_get (D := G) (ci := 3) (v := .ref (A 11)) (C := RX3) (T := TX3) (N := 18) hx hb hts hiRX3 hown hK hP 0 rfl rfl 11 (by decide) (hts (.fieldLink RX3 37 "NameAuctionModel" "amount" "[I") (by decide +kernel)) (fun _ h9 => h9) rfl dX3_bestBut_45 ?_
            refine lv_iload hx hb dX3_bestBut_48 (lv_at hl 0 rfl) ?_
            refine giald (j := ((6 * j) + i)) hx hb hK hP 10 0 rfl rfl (show (nI ((6 * j) + i) : Int32) = nI ((6 * j) + i) from rfl) (by omega) (by decide) dX3_bestBut_50 ?_
            refine lv_icmp_lt (tgt := 58) hx hb dX3_bestBut_51 (by decide) (fun c51 => ?_) (fun c51 => ?_)
            · skip
              refine lv_iconst (v := 0) hx hb dX3_bestBut_58 (by decide) ?_
              refine lv_istore (lv' := [(6, .int 0), (5, .int (nI ((6 * j) + i))), (0, .ref x1), (1, .int (nI j)), (2, .int p1), (3, .int (eO o)), (4, .int (nI i))]) hx hb dX3_bestBut_59 hl (by decide) rfl (fun ls hl => ?_)
              refine lv_iload_n hx hb dX3_bestBut_61 rfl (lv_at hl 5 rfl) ?_
              refine lv_iconst (v := (-1)) hx hb dX3_bestBut_62 (by decide) ?_
              refine lv_icmp_eq (tgt := 129) hx hb dX3_bestBut_63 (by decide) (fun c63 => ?_) (fun c63 => ?_)
              · skip
                have ho2 : o = none := eO_none c63 hb6
                refine lv_iconst (v := 1) hx hb dX3_bestBut_129 (by decide) ?_
                refine lv_goto (tgt := 134) hx hb dX3_bestBut_130 (by decide) ?_
                refine lv_istore (lv' := [(7, .int 1), (6, .int 0), (5, .int (nI ((6 * j) + i))), (0, .ref x1), (1, .int (nI j)), (2, .int p1), (3, .int (eO o)), (4, .int (nI i))]) hx hb dX3_bestBut_134 hl (by decide) rfl (fun ls hl => ?_)
                refine lv_iload hx hb dX3_bestBut_136 (lv_at hl 1 rfl) ?_
                refine lv_if_eq (tgt := 151) hx hb dX3_bestBut_138 (by decide) (fun c138 => ?_) (fun c138 => ?_)
                · skip
                  refine lv_iload_n hx hb dX3_bestBut_151 rfl (lv_at hl 6 rfl) ?_
                  refine lv_istore_n (lv' := [(3, .int (eO o)), (7, .int 1), (6, .int 0), (5, .int (nI ((6 * j) + i))), (0, .ref x1), (1, .int (nI j)), (2, .int p1), (4, .int (nI i))]) hx hb dX3_bestBut_152 rfl hl (by decide) rfl (fun ls hl => ?_)
                  refine lv_iinc (v := nI (i + 1)) (lv' := [(4, .int (nI (i + 1))), (3, .int (eO o)), (7, .int 1), (6, .int 0), (5, .int (nI ((6 * j) + i))), (0, .ref x1), (1, .int (nI j)), (2, .int p1)]) hx hb dX3_bestBut_153 hl (k := 7) rfl (by first | rfl | exact (nI_add i 1)) (by decide) rfl (fun ls hl => ?_)
                  refine lv_goto (tgt := 5) hx hb dX3_bestBut_156 (by decide) ?_
                  exact ih5 (i + 1) o _ _ _ (by omega) (by omega) (by simp [mBest, ho, eq_false c9, eq_false c24, eq_false c34, eq_true c51, eq_true c63, eq_true c138, ho2]) hb6 hP hD hS (lv_sub hl [5, 6, 7, 1, 0] rfl)
                · exact absurd c138 (by decide)
              · skip
                obtain ⟨b, ho2, hb7⟩ := eO_some c63 hb6
                refine lv_aload_n hx hb dX3_bestBut_66 rfl (lv_at hl 2 rfl) ?_
                refine va_get (D := G) (ci := 3) (v := .ref (A 11)) (C := RX3) (T := TX3) (N := 18) hx hb hts hiRX3 hown hK hP 0 rfl rfl 11 (by decide) (hts (.fieldLink RX3 37 "NameAuctionModel" "amount" "[I") (by decide +kernel)) (fun _ h9 => h9) rfl dX3_bestBut_67 ?_
                refine lv_iload hx hb dX3_bestBut_70 (lv_at hl 1 rfl) ?_
                refine giald (j := ((6 * j) + i)) hx hb hK hP 10 0 rfl rfl (show (nI ((6 * j) + i) : Int32) = nI ((6 * j) + i) from rfl) (by omega) (by decide) dX3_bestBut_72 ?_
                refine lv_aload_n hx hb dX3_bestBut_73 rfl (lv_at hl 2 rfl) ?_
                refine va_get (D := G) (ci := 3) (v := .ref (A 11)) (C := RX3) (T := TX3) (N := 18) hx hb hts hiRX3 hown hK hP 0 rfl rfl 11 (by decide) (hts (.fieldLink RX3 37 "NameAuctionModel" "amount" "[I") (by decide +kernel)) (fun _ h9 => h9) rfl dX3_bestBut_74 ?_
                refine lv_bipush (v := 6) hx hb dX3_bestBut_77 (by decide) ?_
                refine lv_iload_n hx hb dX3_bestBut_79 rfl (lv_at hl 3 rfl) ?_
                refine lv_imul hx hb dX3_bestBut_80 ?_
                refine gtop (y := nI (6 * j)) (pk_mul 6 j) ?_
                refine lv_iload_n hx hb dX3_bestBut_81 rfl (lv_at hl 5 rfl) ?_
                refine gtop (y := nI b) (by rw [ho2]; rfl) ?_
                refine lv_iadd hx hb dX3_bestBut_82 ?_
                refine gtop (y := nI ((6 * j) + b)) (nI_add (6 * j) b) ?_
                refine giald (j := ((6 * j) + b)) hx hb hK hP 10 0 rfl rfl (show (nI ((6 * j) + b) : Int32) = nI ((6 * j) + b) from rfl) (by omega) (by decide) dX3_bestBut_83 ?_
                refine lv_icmp_gt (tgt := 129) hx hb dX3_bestBut_84 (by decide) (fun c84 => ?_) (fun c84 => ?_)
                · skip
                  refine lv_iconst (v := 1) hx hb dX3_bestBut_129 (by decide) ?_
                  refine lv_goto (tgt := 134) hx hb dX3_bestBut_130 (by decide) ?_
                  refine lv_istore (lv' := [(7, .int 1), (6, .int 0), (5, .int (nI ((6 * j) + i))), (0, .ref x1), (1, .int (nI j)), (2, .int p1), (3, .int (eO o)), (4, .int (nI i))]) hx hb dX3_bestBut_134 hl (by decide) rfl (fun ls hl => ?_)
                  refine lv_iload hx hb dX3_bestBut_136 (lv_at hl 1 rfl) ?_
                  refine lv_if_eq (tgt := 151) hx hb dX3_bestBut_138 (by decide) (fun c138 => ?_) (fun c138 => ?_)
                  · skip
                    refine lv_iload_n hx hb dX3_bestBut_151 rfl (lv_at hl 6 rfl) ?_
                    refine lv_istore_n (lv' := [(3, .int (eO o)), (7, .int 1), (6, .int 0), (5, .int (nI ((6 * j) + i))), (0, .ref x1), (1, .int (nI j)), (2, .int p1), (4, .int (nI i))]) hx hb dX3_bestBut_152 rfl hl (by decide) rfl (fun ls hl => ?_)
                    refine lv_iinc (v := nI (i + 1)) (lv' := [(4, .int (nI (i + 1))), (3, .int (eO o)), (7, .int 1), (6, .int 0), (5, .int (nI ((6 * j) + i))), (0, .ref x1), (1, .int (nI j)), (2, .int p1)]) hx hb dX3_bestBut_153 hl (k := 7) rfl (by first | rfl | exact (nI_add i 1)) (by decide) rfl (fun ls hl => ?_)
                    refine lv_goto (tgt := 5) hx hb dX3_bestBut_156 (by decide) ?_
                    exact ih5 (i + 1) o _ _ _ (by omega) (by omega) (by simp [mBest, ho, eq_false c9, eq_false c24, eq_false c34, eq_true c51, eq_false c63, eq_true c84, eq_true c138, ho2]) hb6 hP hD hS (lv_sub hl [5, 6, 7, 1, 0] rfl)
                  · exact absurd c138 (by decide)
                · skip
                  refine lv_aload_n hx hb dX3_bestBut_87 rfl (lv_at hl 2 rfl) ?_
                  refine va_get (D := G) (ci := 3) (v := .ref (A 11)) (C := RX3) (T := TX3) (N := 18) hx hb hts hiRX3 hown hK hP 0 rfl rfl 11 (by decide) (hts (.fieldLink RX3 37 "NameAuctionModel" "amount" "[I") (by decide +kernel)) (fun _ h9 => h9) rfl dX3_bestBut_88 ?_
                  refine lv_iload hx hb dX3_bestBut_91 (lv_at hl 1 rfl) ?_
                  refine giald (j := ((6 * j) + i)) hx hb hK hP 10 0 rfl rfl (show (nI ((6 * j) + i) : Int32) = nI ((6 * j) + i) from rfl) (by omega) (by decide) dX3_bestBut_93 ?_
                  refine lv_aload_n hx hb dX3_bestBut_94 rfl (lv_at hl 2 rfl) ?_
                  refine va_get (D := G) (ci := 3) (v := .ref (A 11)) (C := RX3) (T := TX3) (N := 18) hx hb hts hiRX3 hown hK hP 0 rfl rfl 11 (by decide) (hts (.fieldLink RX3 37 "NameAuctionModel" "amount" "[I") (by decide +kernel)) (fun _ h9 => h9) rfl dX3_bestBut_95 ?_
                  refine lv_bipush (v := 6) hx hb dX3_bestBut_98 (by decide) ?_
                  refine lv_iload_n hx hb dX3_bestBut_100 rfl (lv_at hl 3 rfl) ?_
                  refine lv_imul hx hb dX3_bestBut_101 ?_
                  refine gtop (y := nI (6 * j)) (pk_mul 6 j) ?_
                  refine lv_iload_n hx hb dX3_bestBut_102 rfl (lv_at hl 5 rfl) ?_
                  refine gtop (y := nI b) (by rw [ho2]; rfl) ?_
                  refine lv_iadd hx hb dX3_bestBut_103 ?_
                  refine gtop (y := nI ((6 * j) + b)) (nI_add (6 * j) b) ?_
                  refine giald (j := ((6 * j) + b)) hx hb hK hP 10 0 rfl rfl (show (nI ((6 * j) + b) : Int32) = nI ((6 * j) + b) from rfl) (by omega) (by decide) dX3_bestBut_104 ?_
                  refine lv_icmp_ne (tgt := 133) hx hb dX3_bestBut_105 (by decide) (fun c105 => ?_) (fun c105 => ?_)
                  · skip
                    refine lv_iconst (v := 0) hx hb dX3_bestBut_133 (by decide) ?_
                    refine lv_istore (lv' := [(7, .int 0), (6, .int 0), (5, .int (nI ((6 * j) + i))), (0, .ref x1), (1, .int (nI j)), (2, .int p1), (3, .int (eO o)), (4, .int (nI i))]) hx hb dX3_bestBut_134 hl (by decide) rfl (fun ls hl => ?_)
                    refine lv_iload hx hb dX3_bestBut_136 (lv_at hl 1 rfl) ?_
                    refine lv_if_eq (tgt := 151) hx hb dX3_bestBut_138 (by decide) (fun c138 => ?_) (fun c138 => ?_)
                    · skip
                      refine lv_iload_n hx hb dX3_bestBut_151 rfl (lv_at hl 6 rfl) ?_
                      refine lv_istore_n (lv' := [(3, .int (eO o)), (7, .int 0), (6, .int 0), (5, .int (nI ((6 * j) + i))), (0, .ref x1), (1, .int (nI j)), (2, .int p1), (4, .int (nI i))]) hx hb dX3_bestBut_152 rfl hl (by decide) rfl (fun ls hl => ?_)
                      refine lv_iinc (v := nI (i + 1)) (lv' := [(4, .int (nI (i + 1))), (3, .int (eO o)), (7, .int 0), (6, .int 0), (5, .int (nI ((6 * j) + i))), (0, .ref x1), (1, .int (nI j)), (2, .int p1)]) hx hb dX3_bestBut_153 hl (k := 7) rfl (by first | rfl | exact (nI_add i 1)) (by decide) rfl (fun ls hl => ?_)
                      refine lv_goto (tgt := 5) hx hb dX3_bestBut_156 (by decide) ?_
                      exact ih5 (i + 1) o _ _ _ (by omega) (by omega) (by simp [mBest, ho, eq_false c9, eq_false c24, eq_false c34, eq_true c51, eq_false c63, eq_false c84, eq_false c105, eq_true c138, ho2]) hb6 hP hD hS (lv_sub hl [5, 6, 7, 1, 0] rfl)
                    · exact absurd c138 (by decide)
                  · skip
                    refine lv_aload_n hx hb dX3_bestBut_108 rfl (lv_at hl 2 rfl) ?_
                    refine va_get (D := G) (ci := 3) (v := .ref (A 12)) (C := RX3) (T := TX3) (N := 18) hx hb hts hiRX3 hown hK hP 0 rfl rfl 12 (by decide) (hts (.fieldLink RX3 40 "NameAuctionModel" "came" "[I") (by decide +kernel)) (fun _ h9 => h9) rfl dX3_bestBut_109 ?_
                    refine lv_iload hx hb dX3_bestBut_112 (lv_at hl 1 rfl) ?_
                    refine giald (j := ((6 * j) + i)) hx hb hK hP 11 0 rfl rfl (show (nI ((6 * j) + i) : Int32) = nI ((6 * j) + i) from rfl) (by omega) (by decide) dX3_bestBut_114 ?_
                    refine lv_aload_n hx hb dX3_bestBut_115 rfl (lv_at hl 2 rfl) ?_
                    refine va_get (D := G) (ci := 3) (v := .ref (A 12)) (C := RX3) (T := TX3) (N := 18) hx hb hts hiRX3 hown hK hP 0 rfl rfl 12 (by decide) (hts (.fieldLink RX3 40 "NameAuctionModel" "came" "[I") (by decide +kernel)) (fun _ h9 => h9) rfl dX3_bestBut_116 ?_
                    refine lv_bipush (v := 6) hx hb dX3_bestBut_119 (by decide) ?_
                    refine lv_iload_n hx hb dX3_bestBut_121 rfl (lv_at hl 3 rfl) ?_
                    refine lv_imul hx hb dX3_bestBut_122 ?_
                    refine gtop (y := nI (6 * j)) (pk_mul 6 j) ?_
                    refine lv_iload_n hx hb dX3_bestBut_123 rfl (lv_at hl 5 rfl) ?_
                    refine gtop (y := nI b) (by rw [ho2]; rfl) ?_
                    refine lv_iadd hx hb dX3_bestBut_124 ?_
                    refine gtop (y := nI ((6 * j) + b)) (nI_add (6 * j) b) ?_
                    refine giald (j := ((6 * j) + b)) hx hb hK hP 11 0 rfl rfl (show (nI ((6 * j) + b) : Int32) = nI ((6 * j) + b) from rfl) (by omega) (by decide) dX3_bestBut_125 ?_
                    refine lv_icmp_ge (tgt := 133) hx hb dX3_bestBut_126 (by decide) (fun c126 => ?_) (fun c126 => ?_)
                    · skip
                      refine lv_iconst (v := 0) hx hb dX3_bestBut_133 (by decide) ?_
                      refine lv_istore (lv' := [(7, .int 0), (6, .int 0), (5, .int (nI ((6 * j) + i))), (0, .ref x1), (1, .int (nI j)), (2, .int p1), (3, .int (eO o)), (4, .int (nI i))]) hx hb dX3_bestBut_134 hl (by decide) rfl (fun ls hl => ?_)
                      refine lv_iload hx hb dX3_bestBut_136 (lv_at hl 1 rfl) ?_
                      refine lv_if_eq (tgt := 151) hx hb dX3_bestBut_138 (by decide) (fun c138 => ?_) (fun c138 => ?_)
                      · skip
                        refine lv_iload_n hx hb dX3_bestBut_151 rfl (lv_at hl 6 rfl) ?_
                        refine lv_istore_n (lv' := [(3, .int (eO o)), (7, .int 0), (6, .int 0), (5, .int (nI ((6 * j) + i))), (0, .ref x1), (1, .int (nI j)), (2, .int p1), (4, .int (nI i))]) hx hb dX3_bestBut_152 rfl hl (by decide) rfl (fun ls hl => ?_)
                        refine lv_iinc (v := nI (i + 1)) (lv' := [(4, .int (nI (i + 1))), (3, .int (eO o)), (7, .int 0), (6, .int 0), (5, .int (nI ((6 * j) + i))), (0, .ref x1), (1, .int (nI j)), (2, .int p1)]) hx hb dX3_bestBut_153 hl (k := 7) rfl (by first | rfl | exact (nI_add i 1)) (by decide) rfl (fun ls hl => ?_)
                        refine lv_goto (tgt := 5) hx hb dX3_bestBut_156 (by decide) ?_
                        exact ih5 (i + 1) o _ _ _ (by omega) (by omega) (by simp [mBest, ho, eq_false c9, eq_false c24, eq_false c34, eq_true c51, eq_false c63, eq_false c84, eq_true c105, eq_true c126, eq_true c138, ho2]) hb6 hP hD hS (lv_sub hl [5, 6, 7, 1, 0] rfl)
                      · exact absurd c138 (by decide)
                    · skip
                      refine lv_iconst (v := 1) hx hb dX3_bestBut_129 (by decide) ?_
                      refine lv_goto (tgt := 134) hx hb dX3_bestBut_130 (by decide) ?_
                      refine lv_istore (lv' := [(7, .int 1), (6, .int 0), (5, .int (nI ((6 * j) + i))), (0, .ref x1), (1, .int (nI j)), (2, .int p1), (3, .int (eO o)), (4, .int (nI i))]) hx hb dX3_bestBut_134 hl (by decide) rfl (fun ls hl => ?_)
                      refine lv_iload hx hb dX3_bestBut_136 (lv_at hl 1 rfl) ?_
                      refine lv_if_eq (tgt := 151) hx hb dX3_bestBut_138 (by decide) (fun c138 => ?_) (fun c138 => ?_)
                      · skip
                        refine lv_iload_n hx hb dX3_bestBut_151 rfl (lv_at hl 6 rfl) ?_
                        refine lv_istore_n (lv' := [(3, .int (eO o)), (7, .int 1), (6, .int 0), (5, .int (nI ((6 * j) + i))), (0, .ref x1), (1, .int (nI j)), (2, .int p1), (4, .int (nI i))]) hx hb dX3_bestBut_152 rfl hl (by decide) rfl (fun ls hl => ?_)
                        refine lv_iinc (v := nI (i + 1)) (lv' := [(4, .int (nI (i + 1))), (3, .int (eO o)), (7, .int 1), (6, .int 0), (5, .int (nI ((6 * j) + i))), (0, .ref x1), (1, .int (nI j)), (2, .int p1)]) hx hb dX3_bestBut_153 hl (k := 7) rfl (by first | rfl | exact (nI_add i 1)) (by decide) rfl (fun ls hl => ?_)
                        refine lv_goto (tgt := 5) hx hb dX3_bestBut_156 (by decide) ?_
                        exact ih5 (i + 1) o _ _ _ (by omega) (by omega) (by simp [mBest, ho, eq_false c9, eq_false c24, eq_false c34, eq_true c51, eq_false c63, eq_false c84, eq_true c105, eq_false c126, eq_true c138, ho2]) hb6 hP hD hS (lv_sub hl [5, 6, 7, 1, 0] rfl)
                      · exact absurd c138 (by decide)
            · skip
              refine lv_iconst (v := 1) hx hb dX3_bestBut_54 (by decide) ?_
              refine lv_goto (tgt := 59) hx hb dX3_bestBut_55 (by decide) ?_
              refine lv_istore (lv' := [(6, .int 1), (5, .int (nI ((6 * j) + i))), (0, .ref x1), (1, .int (nI j)), (2, .int p1), (3, .int (eO o)), (4, .int (nI i))]) hx hb dX3_bestBut_59 hl (by decide) rfl (fun ls hl => ?_)
              refine lv_iload_n hx hb dX3_bestBut_61 rfl (lv_at hl 5 rfl) ?_
              refine lv_iconst (v := (-1)) hx hb dX3_bestBut_62 (by decide) ?_
              refine lv_icmp_eq (tgt := 129) hx hb dX3_bestBut_63 (by decide) (fun c63 => ?_) (fun c63 => ?_)
              · skip
                have ho2 : o = none := eO_none c63 hb6
                refine lv_iconst (v := 1) hx hb dX3_bestBut_129 (by decide) ?_
                refine lv_goto (tgt := 134) hx hb dX3_bestBut_130 (by decide) ?_
                refine lv_istore (lv' := [(7, .int 1), (6, .int 1), (5, .int (nI ((6 * j) + i))), (0, .ref x1), (1, .int (nI j)), (2, .int p1), (3, .int (eO o)), (4, .int (nI i))]) hx hb dX3_bestBut_134 hl (by decide) rfl (fun ls hl => ?_)
                refine lv_iload hx hb dX3_bestBut_136 (lv_at hl 1 rfl) ?_
                refine lv_if_eq (tgt := 151) hx hb dX3_bestBut_138 (by decide) (fun c138 => ?_) (fun c138 => ?_)
                · exact absurd c138 (by decide)
                · skip
                  refine lv_iload hx hb dX3_bestBut_141 (lv_at hl 0 rfl) ?_
                  refine lv_if_eq (tgt := 151) hx hb dX3_bestBut_143 (by decide) (fun c143 => ?_) (fun c143 => ?_)
                  · exact absurd c143 (by decide)
                  · skip
                    refine lv_iload hx hb dX3_bestBut_146 (lv_at hl 7 rfl) ?_
                    refine lv_goto (tgt := 152) hx hb dX3_bestBut_148 (by decide) ?_
                    refine lv_istore_n (lv' := [(3, .int (nI i)), (7, .int 1), (6, .int 1), (5, .int (nI ((6 * j) + i))), (0, .ref x1), (1, .int (nI j)), (2, .int p1), (4, .int (nI i))]) hx hb dX3_bestBut_152 rfl hl (by decide) rfl (fun ls hl => ?_)
                    refine lv_iinc (v := nI (i + 1)) (lv' := [(4, .int (nI (i + 1))), (3, .int (nI i)), (7, .int 1), (6, .int 1), (5, .int (nI ((6 * j) + i))), (0, .ref x1), (1, .int (nI j)), (2, .int p1)]) hx hb dX3_bestBut_153 hl (k := 7) rfl (by first | rfl | exact (nI_add i 1)) (by decide) rfl (fun ls hl => ?_)
                    refine lv_goto (tgt := 5) hx hb dX3_bestBut_156 (by decide) ?_
                    rw [show (nI i) = (eO (some i)) from rfl] at hl
                    exact ih5 (i + 1) (some i) _ _ _ (by omega) (by omega) (by simp [mBest, ho, eq_false c9, eq_false c24, eq_false c34, eq_false c51, eq_true c63, eq_false c138, eq_false c143, ho2]) (fun b h => by cases h; omega) hP hD hS (lv_sub hl [5, 6, 7, 1, 0] rfl)
              · skip
                obtain ⟨b, ho2, hb7⟩ := eO_some c63 hb6
                refine lv_aload_n hx hb dX3_bestBut_66 rfl (lv_at hl 2 rfl) ?_
                refine va_get (D := G) (ci := 3) (v := .ref (A 11)) (C := RX3) (T := TX3) (N := 18) hx hb hts hiRX3 hown hK hP 0 rfl rfl 11 (by decide) (hts (.fieldLink RX3 37 "NameAuctionModel" "amount" "[I") (by decide +kernel)) (fun _ h9 => h9) rfl dX3_bestBut_67 ?_
                refine lv_iload hx hb dX3_bestBut_70 (lv_at hl 1 rfl) ?_
                refine giald (j := ((6 * j) + i)) hx hb hK hP 10 0 rfl rfl (show (nI ((6 * j) + i) : Int32) = nI ((6 * j) + i) from rfl) (by omega) (by decide) dX3_bestBut_72 ?_
                refine lv_aload_n hx hb dX3_bestBut_73 rfl (lv_at hl 2 rfl) ?_
                refine va_get (D := G) (ci := 3) (v := .ref (A 11)) (C := RX3) (T := TX3) (N := 18) hx hb hts hiRX3 hown hK hP 0 rfl rfl 11 (by decide) (hts (.fieldLink RX3 37 "NameAuctionModel" "amount" "[I") (by decide +kernel)) (fun _ h9 => h9) rfl dX3_bestBut_74 ?_
                refine lv_bipush (v := 6) hx hb dX3_bestBut_77 (by decide) ?_
                refine lv_iload_n hx hb dX3_bestBut_79 rfl (lv_at hl 3 rfl) ?_
                refine lv_imul hx hb dX3_bestBut_80 ?_
                refine gtop (y := nI (6 * j)) (pk_mul 6 j) ?_
                refine lv_iload_n hx hb dX3_bestBut_81 rfl (lv_at hl 5 rfl) ?_
                refine gtop (y := nI b) (by rw [ho2]; rfl) ?_
                refine lv_iadd hx hb dX3_bestBut_82 ?_
                refine gtop (y := nI ((6 * j) + b)) (nI_add (6 * j) b) ?_
                refine giald (j := ((6 * j) + b)) hx hb hK hP 10 0 rfl rfl (show (nI ((6 * j) + b) : Int32) = nI ((6 * j) + b) from rfl) (by omega) (by decide) dX3_bestBut_83 ?_
                refine lv_icmp_gt (tgt := 129) hx hb dX3_bestBut_84 (by decide) (fun c84 => ?_) (fun c84 => ?_)
                · skip
                  refine lv_iconst (v := 1) hx hb dX3_bestBut_129 (by decide) ?_
                  refine lv_goto (tgt := 134) hx hb dX3_bestBut_130 (by decide) ?_
                  refine lv_istore (lv' := [(7, .int 1), (6, .int 1), (5, .int (nI ((6 * j) + i))), (0, .ref x1), (1, .int (nI j)), (2, .int p1), (3, .int (eO o)), (4, .int (nI i))]) hx hb dX3_bestBut_134 hl (by decide) rfl (fun ls hl => ?_)
                  refine lv_iload hx hb dX3_bestBut_136 (lv_at hl 1 rfl) ?_
                  refine lv_if_eq (tgt := 151) hx hb dX3_bestBut_138 (by decide) (fun c138 => ?_) (fun c138 => ?_)
                  · exact absurd c138 (by decide)
                  · skip
                    refine lv_iload hx hb dX3_bestBut_141 (lv_at hl 0 rfl) ?_
                    refine lv_if_eq (tgt := 151) hx hb dX3_bestBut_143 (by decide) (fun c143 => ?_) (fun c143 => ?_)
                    · exact absurd c143 (by decide)
                    · skip
                      refine lv_iload hx hb dX3_bestBut_146 (lv_at hl 7 rfl) ?_
                      refine lv_goto (tgt := 152) hx hb dX3_bestBut_148 (by decide) ?_
                      refine lv_istore_n (lv' := [(3, .int (nI i)), (7, .int 1), (6, .int 1), (5, .int (nI ((6 * j) + i))), (0, .ref x1), (1, .int (nI j)), (2, .int p1), (4, .int (nI i))]) hx hb dX3_bestBut_152 rfl hl (by decide) rfl (fun ls hl => ?_)
                      refine lv_iinc (v := nI (i + 1)) (lv' := [(4, .int (nI (i + 1))), (3, .int (nI i)), (7, .int 1), (6, .int 1), (5, .int (nI ((6 * j) + i))), (0, .ref x1), (1, .int (nI j)), (2, .int p1)]) hx hb dX3_bestBut_153 hl (k := 7) rfl (by first | rfl | exact (nI_add i 1)) (by decide) rfl (fun ls hl => ?_)
                      refine lv_goto (tgt := 5) hx hb dX3_bestBut_156 (by decide) ?_
                      rw [show (nI i) = (eO (some i)) from rfl] at hl
                      exact ih5 (i + 1) (some i) _ _ _ (by omega) (by omega) (by simp [mBest, ho, eq_false c9, eq_false c24, eq_false c34, eq_false c51, eq_false c63, eq_true c84, eq_false c138, eq_false c143, ho2]) (fun b h => by cases h; omega) hP hD hS (lv_sub hl [5, 6, 7, 1, 0] rfl)
                · skip
                  refine lv_aload_n hx hb dX3_bestBut_87 rfl (lv_at hl 2 rfl) ?_
                  refine va_get (D := G) (ci := 3) (v := .ref (A 11)) (C := RX3) (T := TX3) (N := 18) hx hb hts hiRX3 hown hK hP 0 rfl rfl 11 (by decide) (hts (.fieldLink RX3 37 "NameAuctionModel" "amount" "[I") (by decide +kernel)) (fun _ h9 => h9) rfl dX3_bestBut_88 ?_
                  refine lv_iload hx hb dX3_bestBut_91 (lv_at hl 1 rfl) ?_
                  refine giald (j := ((6 * j) + i)) hx hb hK hP 10 0 rfl rfl (show (nI ((6 * j) + i) : Int32) = nI ((6 * j) + i) from rfl) (by omega) (by decide) dX3_bestBut_93 ?_
                  refine lv_aload_n hx hb dX3_bestBut_94 rfl (lv_at hl 2 rfl) ?_
                  refine va_get (D := G) (ci := 3) (v := .ref (A 11)) (C := RX3) (T := TX3) (N := 18) hx hb hts hiRX3 hown hK hP 0 rfl rfl 11 (by decide) (hts (.fieldLink RX3 37 "NameAuctionModel" "amount" "[I") (by decide +kernel)) (fun _ h9 => h9) rfl dX3_bestBut_95 ?_
                  refine lv_bipush (v := 6) hx hb dX3_bestBut_98 (by decide) ?_
                  refine lv_iload_n hx hb dX3_bestBut_100 rfl (lv_at hl 3 rfl) ?_
                  refine lv_imul hx hb dX3_bestBut_101 ?_
                  refine gtop (y := nI (6 * j)) (pk_mul 6 j) ?_
                  refine lv_iload_n hx hb dX3_bestBut_102 rfl (lv_at hl 5 rfl) ?_
                  refine gtop (y := nI b) (by rw [ho2]; rfl) ?_
                  refine lv_iadd hx hb dX3_bestBut_103 ?_
                  refine gtop (y := nI ((6 * j) + b)) (nI_add (6 * j) b) ?_
                  refine giald (j := ((6 * j) + b)) hx hb hK hP 10 0 rfl rfl (show (nI ((6 * j) + b) : Int32) = nI ((6 * j) + b) from rfl) (by omega) (by decide) dX3_bestBut_104 ?_
                  refine lv_icmp_ne (tgt := 133) hx hb dX3_bestBut_105 (by decide) (fun c105 => ?_) (fun c105 => ?_)
                  · skip
                    refine lv_iconst (v := 0) hx hb dX3_bestBut_133 (by decide) ?_
                    refine lv_istore (lv' := [(7, .int 0), (6, .int 1), (5, .int (nI ((6 * j) + i))), (0, .ref x1), (1, .int (nI j)), (2, .int p1), (3, .int (eO o)), (4, .int (nI i))]) hx hb dX3_bestBut_134 hl (by decide) rfl (fun ls hl => ?_)
                    refine lv_iload hx hb dX3_bestBut_136 (lv_at hl 1 rfl) ?_
                    refine lv_if_eq (tgt := 151) hx hb dX3_bestBut_138 (by decide) (fun c138 => ?_) (fun c138 => ?_)
                    · exact absurd c138 (by decide)
                    · skip
                      refine lv_iload hx hb dX3_bestBut_141 (lv_at hl 0 rfl) ?_
                      refine lv_if_eq (tgt := 151) hx hb dX3_bestBut_143 (by decide) (fun c143 => ?_) (fun c143 => ?_)
                      · skip
                        refine lv_iload_n hx hb dX3_bestBut_151 rfl (lv_at hl 6 rfl) ?_
                        refine lv_istore_n (lv' := [(3, .int (eO o)), (7, .int 0), (6, .int 1), (5, .int (nI ((6 * j) + i))), (0, .ref x1), (1, .int (nI j)), (2, .int p1), (4, .int (nI i))]) hx hb dX3_bestBut_152 rfl hl (by decide) rfl (fun ls hl => ?_)
                        refine lv_iinc (v := nI (i + 1)) (lv' := [(4, .int (nI (i + 1))), (3, .int (eO o)), (7, .int 0), (6, .int 1), (5, .int (nI ((6 * j) + i))), (0, .ref x1), (1, .int (nI j)), (2, .int p1)]) hx hb dX3_bestBut_153 hl (k := 7) rfl (by first | rfl | exact (nI_add i 1)) (by decide) rfl (fun ls hl => ?_)
                        refine lv_goto (tgt := 5) hx hb dX3_bestBut_156 (by decide) ?_
                        exact ih5 (i + 1) o _ _ _ (by omega) (by omega) (by simp [mBest, ho, eq_false c9, eq_false c24, eq_false c34, eq_false c51, eq_false c63, eq_false c84, eq_false c105, eq_false c138, eq_true c143, ho2]) hb6 hP hD hS (lv_sub hl [5, 6, 7, 1, 0] rfl)
                      · exact absurd c143 (by decide)
                  · skip
                    refine lv_aload_n hx hb dX3_bestBut_108 rfl (lv_at hl 2 rfl) ?_
                    refine va_get (D := G) (ci := 3) (v := .ref (A 12)) (C := RX3) (T := TX3) (N := 18) hx hb hts hiRX3 hown hK hP 0 rfl rfl 12 (by decide) (hts (.fieldLink RX3 40 "NameAuctionModel" "came" "[I") (by decide +kernel)) (fun _ h9 => h9) rfl dX3_bestBut_109 ?_
                    refine lv_iload hx hb dX3_bestBut_112 (lv_at hl 1 rfl) ?_
                    refine giald (j := ((6 * j) + i)) hx hb hK hP 11 0 rfl rfl (show (nI ((6 * j) + i) : Int32) = nI ((6 * j) + i) from rfl) (by omega) (by decide) dX3_bestBut_114 ?_
                    refine lv_aload_n hx hb dX3_bestBut_115 rfl (lv_at hl 2 rfl) ?_
                    refine va_get (D := G) (ci := 3) (v := .ref (A 12)) (C := RX3) (T := TX3) (N := 18) hx hb hts hiRX3 hown hK hP 0 rfl rfl 12 (by decide) (hts (.fieldLink RX3 40 "NameAuctionModel" "came" "[I") (by decide +kernel)) (fun _ h9 => h9) rfl dX3_bestBut_116 ?_
                    refine lv_bipush (v := 6) hx hb dX3_bestBut_119 (by decide) ?_
                    refine lv_iload_n hx hb dX3_bestBut_121 rfl (lv_at hl 3 rfl) ?_
                    refine lv_imul hx hb dX3_bestBut_122 ?_
                    refine gtop (y := nI (6 * j)) (pk_mul 6 j) ?_
                    refine lv_iload_n hx hb dX3_bestBut_123 rfl (lv_at hl 5 rfl) ?_
                    refine gtop (y := nI b) (by rw [ho2]; rfl) ?_
                    refine lv_iadd hx hb dX3_bestBut_124 ?_
                    refine gtop (y := nI ((6 * j) + b)) (nI_add (6 * j) b) ?_
                    refine giald (j := ((6 * j) + b)) hx hb hK hP 11 0 rfl rfl (show (nI ((6 * j) + b) : Int32) = nI ((6 * j) + b) from rfl) (by omega) (by decide) dX3_bestBut_125 ?_
                    refine lv_icmp_ge (tgt := 133) hx hb dX3_bestBut_126 (by decide) (fun c126 => ?_) (fun c126 => ?_)
                    · skip
                      refine lv_iconst (v := 0) hx hb dX3_bestBut_133 (by decide) ?_
                      refine lv_istore (lv' := [(7, .int 0), (6, .int 1), (5, .int (nI ((6 * j) + i))), (0, .ref x1), (1, .int (nI j)), (2, .int p1), (3, .int (eO o)), (4, .int (nI i))]) hx hb dX3_bestBut_134 hl (by decide) rfl (fun ls hl => ?_)
                      refine lv_iload hx hb dX3_bestBut_136 (lv_at hl 1 rfl) ?_
                      refine lv_if_eq (tgt := 151) hx hb dX3_bestBut_138 (by decide) (fun c138 => ?_) (fun c138 => ?_)
                      · exact absurd c138 (by decide)
                      · skip
                        refine lv_iload hx hb dX3_bestBut_141 (lv_at hl 0 rfl) ?_
                        refine lv_if_eq (tgt := 151) hx hb dX3_bestBut_143 (by decide) (fun c143 => ?_) (fun c143 => ?_)
                        · skip
                          refine lv_iload_n hx hb dX3_bestBut_151 rfl (lv_at hl 6 rfl) ?_
                          refine lv_istore_n (lv' := [(3, .int (eO o)), (7, .int 0), (6, .int 1), (5, .int (nI ((6 * j) + i))), (0, .ref x1), (1, .int (nI j)), (2, .int p1), (4, .int (nI i))]) hx hb dX3_bestBut_152 rfl hl (by decide) rfl (fun ls hl => ?_)
                          refine lv_iinc (v := nI (i + 1)) (lv' := [(4, .int (nI (i + 1))), (3, .int (eO o)), (7, .int 0), (6, .int 1), (5, .int (nI ((6 * j) + i))), (0, .ref x1), (1, .int (nI j)), (2, .int p1)]) hx hb dX3_bestBut_153 hl (k := 7) rfl (by first | rfl | exact (nI_add i 1)) (by decide) rfl (fun ls hl => ?_)
                          refine lv_goto (tgt := 5) hx hb dX3_bestBut_156 (by decide) ?_
                          exact ih5 (i + 1) o _ _ _ (by omega) (by omega) (by simp [mBest, ho, eq_false c9, eq_false c24, eq_false c34, eq_false c51, eq_false c63, eq_false c84, eq_true c105, eq_true c126, eq_false c138, eq_true c143, ho2]) hb6 hP hD hS (lv_sub hl [5, 6, 7, 1, 0] rfl)
                        · exact absurd c143 (by decide)
                    · skip
                      refine lv_iconst (v := 1) hx hb dX3_bestBut_129 (by decide) ?_
                      refine lv_goto (tgt := 134) hx hb dX3_bestBut_130 (by decide) ?_
                      refine lv_istore (lv' := [(7, .int 1), (6, .int 1), (5, .int (nI ((6 * j) + i))), (0, .ref x1), (1, .int (nI j)), (2, .int p1), (3, .int (eO o)), (4, .int (nI i))]) hx hb dX3_bestBut_134 hl (by decide) rfl (fun ls hl => ?_)
                      refine lv_iload hx hb dX3_bestBut_136 (lv_at hl 1 rfl) ?_
                      refine lv_if_eq (tgt := 151) hx hb dX3_bestBut_138 (by decide) (fun c138 => ?_) (fun c138 => ?_)
                      · exact absurd c138 (by decide)
                      · skip
                        refine lv_iload hx hb dX3_bestBut_141 (lv_at hl 0 rfl) ?_
                        refine lv_if_eq (tgt := 151) hx hb dX3_bestBut_143 (by decide) (fun c143 => ?_) (fun c143 => ?_)
                        · exact absurd c143 (by decide)
                        · skip
                          refine lv_iload hx hb dX3_bestBut_146 (lv_at hl 7 rfl) ?_
                          refine lv_goto (tgt := 152) hx hb dX3_bestBut_148 (by decide) ?_
                          refine lv_istore_n (lv' := [(3, .int (nI i)), (7, .int 1), (6, .int 1), (5, .int (nI ((6 * j) + i))), (0, .ref x1), (1, .int (nI j)), (2, .int p1), (4, .int (nI i))]) hx hb dX3_bestBut_152 rfl hl (by decide) rfl (fun ls hl => ?_)
                          refine lv_iinc (v := nI (i + 1)) (lv' := [(4, .int (nI (i + 1))), (3, .int (nI i)), (7, .int 1), (6, .int 1), (5, .int (nI ((6 * j) + i))), (0, .ref x1), (1, .int (nI j)), (2, .int p1)]) hx hb dX3_bestBut_153 hl (k := 7) rfl (by first | rfl | exact (nI_add i 1)) (by decide) rfl (fun ls hl => ?_)
                          refine lv_goto (tgt := 5) hx hb dX3_bestBut_156 (by decide) ?_
                          rw [show (nI i) = (eO (some i)) from rfl] at hl
                          exact ih5 (i + 1) (some i) _ _ _ (by omega) (by omega) (by simp [mBest, ho, eq_false c9, eq_false c24, eq_false c34, eq_false c51, eq_false c63, eq_false c84, eq_true c105, eq_false c126, eq_false c138, eq_false c143, ho2]) (fun b h => by cases h; omega) hP hD hS (lv_sub hl [5, 6, 7, 1, 0] rfl)
  rw [show ((-1)) = (eO none) from rfl] at hl
  exact J5 7 0 none _ _ _ (by omega) (by omega) rfl (fun b h => nomatch h) hP hD hS (lv_sub hl [2, 3, 4, 1, 0] rfl)
abbrev PX3_closes (G : va_G) (T : Nat → ClassId) (x1 : Nat) (A : Nat → Nat) (I1 : Nat → Int32) (F : Nat → Nat → Int32) (j : Nat) (sz : Nat) : Array Value → State → Prop := gPc G T [.ref x1, .int (nI j)] (cM T x1 A I1 F) sz
abbrev QX3_closes (G : va_G) (T : Nat → ClassId) (x1 : Nat) (A : Nat → Nat) (I1 : Nat → Int32) (F : Nat → Nat → Int32) (j : Nat) (sz : Nat) : Array Value → State → Outcome → State → Prop := va_Qi (fun (r : Int32) (_ : Unit) => r = mClR F j) (gB G (cM T x1 A (mClI I1 F j) (mClF F j (I1 0)))) (va_A (cM T x1 A I1 F) sz)
set_option maxHeartbeats 4000000 in
set_option maxRecDepth 100000 in
theorem kX3_closes (l : Launch) (G : va_G) (T : Nat → ClassId) (x1 : Nat) (A : Nat → Nat) (I1 : Nat → Int32) (F : Nat → Nat → Int32) (j : Nat) (sz : Nat) (hj : j < 16) : Met l yX3_closes wsX3_closes ({ frames := 1, cells := 0, slots := 0, locals := 27 } : Room) (PX3_closes G T x1 A I1 F j sz) (QX3_closes G T x1 A I1 F j sz) 0 0 (va_A (cM T x1 A I1 F) sz) := by
  refine Met.ofW (cc := cX3_closes) (maxL := 5) (ret := (some .int)) (by decide) rfl ?_
  intro p e s m args below meth c s₁ B hml hv
  obtain ⟨rfl, hsz, hP, hK, hD0, hE⟩ := hv
  have hx := B.exec
  have hb := B.bytes
  have hr := B.returns
  have hts := atoms_spec (ws := wsX3_closes) B.pre
  have hown : s.vm.findClass RX3 = some m.cls := findClass_of_methodNamed B.named
  have hlocks := B.notSynchronized
  subst hsz
  have hD := hD0.self (sz := s.heap.size)
  have hA : ∀ q : Nat, s.heap.size ≤ q → (va_A (cM T x1 A I1 F) s.heap.size) q := fun q h => Or.inr h
  have hS : va_S (va_A (cM T x1 A I1 F) s.heap.size) s.heap s.heap [] := va_S.rf
  have hiRX3 : ∀ w ∈ u_ws RX3 TX3 18, w ∈ wsX3_closes := by decide +kernel
  have hl := lv_entry ([.ref x1, .int (nI j)]) (n := 5) (Nat.le_of_ble_eq_true rfl)
  rw [lg_entry_eq]
  generalize (lg_sl ([.ref x1, .int (nI j)]) ++ List.replicate (5 - (lg_sl ([.ref x1, .int (nI j)])).length) Slot.unset).toArray = ls at hl ⊢
  have hl : lv_has ls 5 [(0, .ref x1), (1, .int (nI j))] := hl
  have hP : va_P G vwCl (cM T x1 A I1 F) s.heap := hP
  refine lv_aload_n hx hb dX3_closes_0 rfl (lv_at hl 0 rfl) ?_
  refine lv_iload_n hx hb dX3_closes_1 rfl (lv_at hl 1 rfl) ?_
  refine lv_iconst (v := (-1)) hx hb dX3_closes_2 (by decide) ?_
  refine gciT (X := ([] : va_W)) (va_runV (As := [.int (nI j), .int (-1)]) (rest := []) ⟨hx, hb, hml, hown, hts⟩ (kX3_bestBut l G T x1 A I1 F j (-1) _ (by omega)) (cwV 2 hts gX3_closes_X3_bestBut rfl rfl rfl (by decide +kernel) ⟨Nat.le_of_ble_eq_true rfl, Nat.le_of_ble_eq_true rfl⟩) ⟨gblind, va_recv hK hP (ci := 3) (q0 := 0) rfl rfl, gpreT (X := ([] : va_W)) hE hK hP hD hS hA⟩ rfl rfl hl.1 rfl (lv_room (Nat.le_of_ble_eq_true rfl)) dX3_closes_3 ⟨Nat.le_of_ble_eq_true rfl, Nat.le_of_ble_eq_true rfl⟩) hP hD hS hA cM_fst (fun r9 H locs hw hP hD hS => ?_)
  have hP : va_P G vwCl (cM T x1 A I1 F) H := hP
  have hD : va_D (va_A (cM T x1 A I1 F) s.heap.size) (cM T x1 A I1 F) := hD
  subst hw
  refine lv_istore_n (lv' := [(2, .int (eO (mBest F j (-1) 6))), (0, .ref x1), (1, .int (nI j))]) hx hb dX3_closes_6 rfl hl (by decide) rfl (fun ls hl => ?_)
  refine lv_iload_n hx hb dX3_closes_7 rfl (lv_at hl 0 rfl) ?_
  refine lv_iconst (v := (-1)) hx hb dX3_closes_8 (by decide) ?_
  refine lv_icmp_ne (tgt := 16) hx hb dX3_closes_9 (by decide) (fun c9 => ?_) (fun c9 => ?_)
  · skip
    obtain ⟨w, hw2, hw26⟩ := eO_some c9 (fun b h => mBest_lt h)
    rw [show eO (mBest F j (-1) 6) = nI w from by rw [hw2]; rfl] at hl
    refine lv_aload_n hx hb dX3_closes_16 rfl (lv_at hl 1 rfl) ?_
    refine lv_iload_n hx hb dX3_closes_17 rfl (lv_at hl 2 rfl) ?_
    refine lv_iload_n hx hb dX3_closes_18 rfl (lv_at hl 0 rfl) ?_
    refine gciT (X := ([] : va_W)) (va_runV (As := [.int (nI j), .int (nI w)]) (rest := []) ⟨hx, hb, hml, hown, hts⟩ (kX3_bestBut l G T x1 A I1 F j (nI w) _ (by omega)) (cwV 2 hts gX3_closes_X3_bestBut rfl rfl rfl (by decide +kernel) ⟨Nat.le_of_ble_eq_true rfl, Nat.le_of_ble_eq_true rfl⟩) ⟨gblind, va_recv hK hP (ci := 3) (q0 := 0) rfl rfl, gpreT (X := ([] : va_W)) hE hK hP hD hS hA⟩ rfl rfl hl.1 rfl (lv_room (Nat.le_of_ble_eq_true rfl)) dX3_closes_19 ⟨Nat.le_of_ble_eq_true rfl, Nat.le_of_ble_eq_true rfl⟩) hP hD hS hA cM_fst (fun r9 H locs hw hP hD hS => ?_)
    have hP : va_P G vwCl (cM T x1 A I1 F) H := hP
    have hD : va_D (va_A (cM T x1 A I1 F) s.heap.size) (cM T x1 A I1 F) := hD
    subst hw
    refine lv_istore_n (lv' := [(3, .int (eO (mBest F j (nI w) 6))), (2, .int (nI w)), (0, .ref x1), (1, .int (nI j))]) hx hb dX3_closes_22 rfl hl (by decide) rfl (fun ls hl => ?_)
    refine lv_iload_n hx hb dX3_closes_23 rfl (lv_at hl 0 rfl) ?_
    refine lv_iconst (v := (-1)) hx hb dX3_closes_24 (by decide) ?_
    refine lv_icmp_ne (tgt := 33) hx hb dX3_closes_25 (by decide) (fun c25 => ?_) (fun c25 => ?_)
    · skip
      obtain ⟨r, hr2, hr26⟩ := eO_some c25 (fun b h => mBest_lt h)
      rw [show eO (mBest F j (nI w) 6) = nI r from by rw [hr2]; rfl] at hl
      refine lv_aload_n hx hb dX3_closes_33 rfl (lv_at hl 2 rfl) ?_
      refine va_get (D := G) (ci := 3) (v := .ref (A 11)) (C := RX3) (T := TX3) (N := 18) hx hb hts hiRX3 hown hK hP 0 rfl rfl 11 (by decide) (hts (.fieldLink RX3 37 "NameAuctionModel" "amount" "[I") (by decide +kernel)) (fun _ h9 => h9) rfl dX3_closes_34 ?_
      refine lv_bipush (v := 6) hx hb dX3_closes_37 (by decide) ?_
      refine lv_iload_n hx hb dX3_closes_39 rfl (lv_at hl 3 rfl) ?_
      refine lv_imul hx hb dX3_closes_40 ?_
      refine gtop (y := nI (6 * j)) (pk_mul 6 j) ?_
      refine lv_iload_n hx hb dX3_closes_41 rfl (lv_at hl 0 rfl) ?_
      refine lv_iadd hx hb dX3_closes_42 ?_
      refine gtop (y := nI ((6 * j) + r)) (nI_add (6 * j) r) ?_
      refine giald (j := ((6 * j) + r)) hx hb hK hP 10 0 rfl rfl (show (nI ((6 * j) + r) : Int32) = nI ((6 * j) + r) from rfl) (by omega) (by decide) dX3_closes_43 ?_
      refine lv_istore (lv' := [(4, .int ((F 11) ((6 * j) + r))), (3, .int (nI r)), (2, .int (nI w)), (0, .ref x1), (1, .int (nI j))]) hx hb dX3_closes_44 hl (by decide) rfl (fun ls hl => ?_)
      refine lv_aload_n hx hb dX3_closes_46 rfl (lv_at hl 3 rfl) ?_
      refine lv_iload_n hx hb dX3_closes_47 rfl (lv_at hl 4 rfl) ?_
      refine gcvT (X := ([] : va_W)) (va_runV (As := [.int (nI j)]) (rest := []) ⟨hx, hb, hml, hown, hts⟩ (kX3_clears l G T x1 A I1 F j _ (by omega)) (cwV 1 hts gX3_closes_X3_clears rfl rfl rfl (by decide +kernel) ⟨Nat.le_of_ble_eq_true rfl, Nat.le_of_ble_eq_true rfl⟩) ⟨gblind, va_recv hK hP (ci := 3) (q0 := 0) rfl rfl, gpreT (X := ([] : va_W)) hE hK hP hD hS hA⟩ rfl rfl hl.1 rfl (lv_room (Nat.le_of_ble_eq_true rfl)) dX3_closes_48 ⟨Nat.le_of_ble_eq_true rfl, Nat.le_of_ble_eq_true rfl⟩) hP hD hS hA cM_fst (fun H locs hw hP hD hS => ?_)
      have hP : va_P G vwCl (cM T x1 A I1 (mClear F j)) H := hP
      have hD : va_D (va_A (cM T x1 A I1 F) s.heap.size) (cM T x1 A I1 (mClear F j)) := hD
      refine lv_aload_n hx hb dX3_closes_51 rfl (lv_at hl 3 rfl) ?_
      refine va_get (D := G) (ci := 3) (v := .ref (A 3)) (C := RX3) (T := TX3) (N := 18) hx hb hts hiRX3 hown hK hP 0 rfl rfl 3 (by decide) (hts (.fieldLink RX3 13 "NameAuctionModel" "state" "[I") (by decide +kernel)) (fun _ h9 => h9) rfl dX3_closes_52 ?_
      refine lv_iload_n hx hb dX3_closes_55 rfl (lv_at hl 4 rfl) ?_
      refine lv_iconst (v := 0) hx hb dX3_closes_56 (by decide) ?_
      refine giast (j := j) hx hb hK hP hD hS 2 0 rfl rfl (show (nI j : Int32) = nI j from rfl) (by omega) (by decide) dX3_closes_57 (fun H locs hP hD hS => ?_)
      have hP : va_P G vwCl (cM T x1 A I1 (updA (mClear F j) 3 (upd ((mClear F j) 3) j 0))) H := hP
      have hD : va_D (va_A (cM T x1 A I1 F) s.heap.size) (cM T x1 A I1 (updA (mClear F j) 3 (upd ((mClear F j) 3) j 0))) := hD
      refine lv_iload_n hx hb dX3_closes_58 rfl (lv_at hl 2 rfl) ?_
      refine lv_iconst (v := (-1)) hx hb dX3_closes_59 (by decide) ?_
      refine lv_icmp_eq (tgt := 76) hx hb dX3_closes_60 (by decide) (fun c60 => ?_) (fun c60 => ?_)
      · exact absurd c60 (nI_m1 w (by omega))
      · skip
        refine lv_aload_n hx hb dX3_closes_63 rfl (lv_at hl 3 rfl) ?_
        refine lv_iload_n hx hb dX3_closes_64 rfl (lv_at hl 2 rfl) ?_
        refine lv_iload hx hb dX3_closes_65 (lv_at hl 0 rfl) ?_
        refine gcvT (X := ([] : va_W)) (va_runV (As := [.int (nI w), .int ((F 11) ((6 * j) + r))]) (rest := []) ⟨hx, hb, hml, hown, hts⟩ (kX3_pays l G T x1 A I1 (updA (mClear F j) 3 (upd ((mClear F j) 3) j 0)) w ((F 11) ((6 * j) + r)) _ (by omega)) (cwV 2 hts gX3_closes_X3_pays rfl rfl rfl (by decide +kernel) ⟨Nat.le_of_ble_eq_true rfl, Nat.le_of_ble_eq_true rfl⟩) ⟨gblind, va_recv hK hP (ci := 3) (q0 := 0) rfl rfl, gpreT (X := ([] : va_W)) hE hK hP hD hS hA⟩ rfl rfl hl.1 rfl (lv_room (Nat.le_of_ble_eq_true rfl)) dX3_closes_67 ⟨Nat.le_of_ble_eq_true rfl, Nat.le_of_ble_eq_true rfl⟩) hP hD hS hA cM_fst (fun H locs hw hP hD hS => ?_)
        have hP : va_P G vwCl (cM T x1 A (upd I1 1 (I1 1 + ((F 11) ((6 * j) + r)))) (mPayF (updA (mClear F j) 3 (upd ((mClear F j) 3) j 0)) w ((F 11) ((6 * j) + r)))) H := hP
        have hD : va_D (va_A (cM T x1 A I1 F) s.heap.size) (cM T x1 A (upd I1 1 (I1 1 + ((F 11) ((6 * j) + r)))) (mPayF (updA (mClear F j) 3 (upd ((mClear F j) 3) j 0)) w ((F 11) ((6 * j) + r)))) := hD
        refine lv_aload_n hx hb dX3_closes_70 rfl (lv_at hl 3 rfl) ?_
        refine lv_iload_n hx hb dX3_closes_71 rfl (lv_at hl 4 rfl) ?_
        refine lv_iload_n hx hb dX3_closes_72 rfl (lv_at hl 2 rfl) ?_
        refine gcvT (X := ([] : va_W)) (va_runV (As := [.int (nI j), .int (nI w)]) (rest := []) ⟨hx, hb, hml, hown, hts⟩ (kX3_leases l G T x1 A (upd I1 1 (I1 1 + ((F 11) ((6 * j) + r)))) (mPayF (updA (mClear F j) 3 (upd ((mClear F j) 3) j 0)) w ((F 11) ((6 * j) + r))) j (nI w) _ (by omega)) (cwV 2 hts gX3_closes_X3_leases rfl rfl rfl (by decide +kernel) ⟨Nat.le_of_ble_eq_true rfl, Nat.le_of_ble_eq_true rfl⟩) ⟨gblind, va_recv hK hP (ci := 3) (q0 := 0) rfl rfl, gpreT (X := ([] : va_W)) hE hK hP hD hS hA⟩ rfl rfl hl.1 rfl (lv_room (Nat.le_of_ble_eq_true rfl)) dX3_closes_73 ⟨Nat.le_of_ble_eq_true rfl, Nat.le_of_ble_eq_true rfl⟩) hP hD hS hA cM_fst (fun H locs hw hP hD hS => ?_)
        have hP : va_P G vwCl (cM T x1 A (upd I1 1 (I1 1 + ((F 11) ((6 * j) + r)))) (mLease (mPayF (updA (mClear F j) 3 (upd ((mClear F j) 3) j 0)) w ((F 11) ((6 * j) + r))) j (nI w) ((upd I1 1 (I1 1 + ((F 11) ((6 * j) + r)))) 0))) H := hP
        have hD : va_D (va_A (cM T x1 A I1 F) s.heap.size) (cM T x1 A (upd I1 1 (I1 1 + ((F 11) ((6 * j) + r)))) (mLease (mPayF (updA (mClear F j) 3 (upd ((mClear F j) 3) j 0)) w ((F 11) ((6 * j) + r))) j (nI w) ((upd I1 1 (I1 1 + ((F 11) ((6 * j) + r)))) 0))) := hD
        refine lv_iload_n hx hb dX3_closes_76 rfl (lv_at hl 2 rfl) ?_
        refine lv_iconst (v := (-1)) hx hb dX3_closes_77 (by decide) ?_
        refine lv_icmp_ne (tgt := 85) hx hb dX3_closes_78 (by decide) (fun c78 => ?_) (fun c78 => ?_)
        · skip
          refine lv_iconst (v := 1) hx hb dX3_closes_85 (by decide) ?_
          exact W.iret (v := 1) hx hb hr (fun t ht9 hW => ⟨⟨1, (), rfl, by simp [mClR, c9, c25, c60, c78, hw2, hr2], gBi ht9 (gfin hP (by first | (simp only [mClI, mClF, mFree, mPrice, c9, c25, c60, c78, hw2, hr2]; done) | (simp only [mClI, mClF, mFree, mPrice, c9, c25, c60, c78, hw2, hr2]; rfl)))⟩, hS.F ht9⟩) hS.2.2 dX3_closes_86
        · exact absurd c78 (nI_m1 w (by omega))
    · skip
      have hr2 := eO_none c25 (fun b h => mBest_lt h)
      refine lv_bipush (v := 10) hx hb dX3_closes_28 (by decide) ?_
      refine lv_goto (tgt := 44) hx hb dX3_closes_30 (by decide) ?_
      refine lv_istore (lv' := [(4, .int 10), (3, .int (eO (mBest F j (nI w) 6))), (2, .int (nI w)), (0, .ref x1), (1, .int (nI j))]) hx hb dX3_closes_44 hl (by decide) rfl (fun ls hl => ?_)
      refine lv_aload_n hx hb dX3_closes_46 rfl (lv_at hl 3 rfl) ?_
      refine lv_iload_n hx hb dX3_closes_47 rfl (lv_at hl 4 rfl) ?_
      refine gcvT (X := ([] : va_W)) (va_runV (As := [.int (nI j)]) (rest := []) ⟨hx, hb, hml, hown, hts⟩ (kX3_clears l G T x1 A I1 F j _ (by omega)) (cwV 1 hts gX3_closes_X3_clears rfl rfl rfl (by decide +kernel) ⟨Nat.le_of_ble_eq_true rfl, Nat.le_of_ble_eq_true rfl⟩) ⟨gblind, va_recv hK hP (ci := 3) (q0 := 0) rfl rfl, gpreT (X := ([] : va_W)) hE hK hP hD hS hA⟩ rfl rfl hl.1 rfl (lv_room (Nat.le_of_ble_eq_true rfl)) dX3_closes_48 ⟨Nat.le_of_ble_eq_true rfl, Nat.le_of_ble_eq_true rfl⟩) hP hD hS hA cM_fst (fun H locs hw hP hD hS => ?_)
      have hP : va_P G vwCl (cM T x1 A I1 (mClear F j)) H := hP
      have hD : va_D (va_A (cM T x1 A I1 F) s.heap.size) (cM T x1 A I1 (mClear F j)) := hD
      refine lv_aload_n hx hb dX3_closes_51 rfl (lv_at hl 3 rfl) ?_
      refine va_get (D := G) (ci := 3) (v := .ref (A 3)) (C := RX3) (T := TX3) (N := 18) hx hb hts hiRX3 hown hK hP 0 rfl rfl 3 (by decide) (hts (.fieldLink RX3 13 "NameAuctionModel" "state" "[I") (by decide +kernel)) (fun _ h9 => h9) rfl dX3_closes_52 ?_
      refine lv_iload_n hx hb dX3_closes_55 rfl (lv_at hl 4 rfl) ?_
      refine lv_iconst (v := 0) hx hb dX3_closes_56 (by decide) ?_
      refine giast (j := j) hx hb hK hP hD hS 2 0 rfl rfl (show (nI j : Int32) = nI j from rfl) (by omega) (by decide) dX3_closes_57 (fun H locs hP hD hS => ?_)
      have hP : va_P G vwCl (cM T x1 A I1 (updA (mClear F j) 3 (upd ((mClear F j) 3) j 0))) H := hP
      have hD : va_D (va_A (cM T x1 A I1 F) s.heap.size) (cM T x1 A I1 (updA (mClear F j) 3 (upd ((mClear F j) 3) j 0))) := hD
      refine lv_iload_n hx hb dX3_closes_58 rfl (lv_at hl 2 rfl) ?_
      refine lv_iconst (v := (-1)) hx hb dX3_closes_59 (by decide) ?_
      refine lv_icmp_eq (tgt := 76) hx hb dX3_closes_60 (by decide) (fun c60 => ?_) (fun c60 => ?_)
      · exact absurd c60 (nI_m1 w (by omega))
      · skip
        refine lv_aload_n hx hb dX3_closes_63 rfl (lv_at hl 3 rfl) ?_
        refine lv_iload_n hx hb dX3_closes_64 rfl (lv_at hl 2 rfl) ?_
        refine lv_iload hx hb dX3_closes_65 (lv_at hl 0 rfl) ?_
        refine gcvT (X := ([] : va_W)) (va_runV (As := [.int (nI w), .int 10]) (rest := []) ⟨hx, hb, hml, hown, hts⟩ (kX3_pays l G T x1 A I1 (updA (mClear F j) 3 (upd ((mClear F j) 3) j 0)) w 10 _ (by omega)) (cwV 2 hts gX3_closes_X3_pays rfl rfl rfl (by decide +kernel) ⟨Nat.le_of_ble_eq_true rfl, Nat.le_of_ble_eq_true rfl⟩) ⟨gblind, va_recv hK hP (ci := 3) (q0 := 0) rfl rfl, gpreT (X := ([] : va_W)) hE hK hP hD hS hA⟩ rfl rfl hl.1 rfl (lv_room (Nat.le_of_ble_eq_true rfl)) dX3_closes_67 ⟨Nat.le_of_ble_eq_true rfl, Nat.le_of_ble_eq_true rfl⟩) hP hD hS hA cM_fst (fun H locs hw hP hD hS => ?_)
        have hP : va_P G vwCl (cM T x1 A (upd I1 1 (I1 1 + 10)) (mPayF (updA (mClear F j) 3 (upd ((mClear F j) 3) j 0)) w 10)) H := hP
        have hD : va_D (va_A (cM T x1 A I1 F) s.heap.size) (cM T x1 A (upd I1 1 (I1 1 + 10)) (mPayF (updA (mClear F j) 3 (upd ((mClear F j) 3) j 0)) w 10)) := hD
        refine lv_aload_n hx hb dX3_closes_70 rfl (lv_at hl 3 rfl) ?_
        refine lv_iload_n hx hb dX3_closes_71 rfl (lv_at hl 4 rfl) ?_
        refine lv_iload_n hx hb dX3_closes_72 rfl (lv_at hl 2 rfl) ?_
        refine gcvT (X := ([] : va_W)) (va_runV (As := [.int (nI j), .int (nI w)]) (rest := []) ⟨hx, hb, hml, hown, hts⟩ (kX3_leases l G T x1 A (upd I1 1 (I1 1 + 10)) (mPayF (updA (mClear F j) 3 (upd ((mClear F j) 3) j 0)) w 10) j (nI w) _ (by omega)) (cwV 2 hts gX3_closes_X3_leases rfl rfl rfl (by decide +kernel) ⟨Nat.le_of_ble_eq_true rfl, Nat.le_of_ble_eq_true rfl⟩) ⟨gblind, va_recv hK hP (ci := 3) (q0 := 0) rfl rfl, gpreT (X := ([] : va_W)) hE hK hP hD hS hA⟩ rfl rfl hl.1 rfl (lv_room (Nat.le_of_ble_eq_true rfl)) dX3_closes_73 ⟨Nat.le_of_ble_eq_true rfl, Nat.le_of_ble_eq_true rfl⟩) hP hD hS hA cM_fst (fun H locs hw hP hD hS => ?_)
        have hP : va_P G vwCl (cM T x1 A (upd I1 1 (I1 1 + 10)) (mLease (mPayF (updA (mClear F j) 3 (upd ((mClear F j) 3) j 0)) w 10) j (nI w) ((upd I1 1 (I1 1 + 10)) 0))) H := hP
        have hD : va_D (va_A (cM T x1 A I1 F) s.heap.size) (cM T x1 A (upd I1 1 (I1 1 + 10)) (mLease (mPayF (updA (mClear F j) 3 (upd ((mClear F j) 3) j 0)) w 10) j (nI w) ((upd I1 1 (I1 1 + 10)) 0))) := hD
        refine lv_iload_n hx hb dX3_closes_76 rfl (lv_at hl 2 rfl) ?_
        refine lv_iconst (v := (-1)) hx hb dX3_closes_77 (by decide) ?_
        refine lv_icmp_ne (tgt := 85) hx hb dX3_closes_78 (by decide) (fun c78 => ?_) (fun c78 => ?_)
        · skip
          refine lv_iconst (v := 1) hx hb dX3_closes_85 (by decide) ?_
          exact W.iret (v := 1) hx hb hr (fun t ht9 hW => ⟨⟨1, (), rfl, by simp [mClR, c9, c25, c60, c78, hw2, hr2], gBi ht9 (gfin hP (by first | (simp only [mClI, mClF, mFree, mPrice, c9, c25, c60, c78, hw2, hr2]; done) | (simp only [mClI, mClF, mFree, mPrice, c9, c25, c60, c78, hw2, hr2]; rfl)))⟩, hS.F ht9⟩) hS.2.2 dX3_closes_86
        · exact absurd c78 (nI_m1 w (by omega))
  · skip
    have hw2 := eO_none c9 (fun b h => mBest_lt h)
    refine lv_iconst (v := (-1)) hx hb dX3_closes_12 (by decide) ?_
    refine lv_goto (tgt := 22) hx hb dX3_closes_13 (by decide) ?_
    refine lv_istore_n (lv' := [(3, .int (-1)), (2, .int (eO (mBest F j (-1) 6))), (0, .ref x1), (1, .int (nI j))]) hx hb dX3_closes_22 rfl hl (by decide) rfl (fun ls hl => ?_)
    refine lv_iload_n hx hb dX3_closes_23 rfl (lv_at hl 0 rfl) ?_
    refine lv_iconst (v := (-1)) hx hb dX3_closes_24 (by decide) ?_
    refine lv_icmp_ne (tgt := 33) hx hb dX3_closes_25 (by decide) (fun c25 => ?_) (fun c25 => ?_)
    · exact absurd c25 (by decide)
    · skip
      refine lv_bipush (v := 10) hx hb dX3_closes_28 (by decide) ?_
      refine lv_goto (tgt := 44) hx hb dX3_closes_30 (by decide) ?_
      refine lv_istore (lv' := [(4, .int 10), (3, .int (-1)), (2, .int (eO (mBest F j (-1) 6))), (0, .ref x1), (1, .int (nI j))]) hx hb dX3_closes_44 hl (by decide) rfl (fun ls hl => ?_)
      refine lv_aload_n hx hb dX3_closes_46 rfl (lv_at hl 3 rfl) ?_
      refine lv_iload_n hx hb dX3_closes_47 rfl (lv_at hl 4 rfl) ?_
      refine gcvT (X := ([] : va_W)) (va_runV (As := [.int (nI j)]) (rest := []) ⟨hx, hb, hml, hown, hts⟩ (kX3_clears l G T x1 A I1 F j _ (by omega)) (cwV 1 hts gX3_closes_X3_clears rfl rfl rfl (by decide +kernel) ⟨Nat.le_of_ble_eq_true rfl, Nat.le_of_ble_eq_true rfl⟩) ⟨gblind, va_recv hK hP (ci := 3) (q0 := 0) rfl rfl, gpreT (X := ([] : va_W)) hE hK hP hD hS hA⟩ rfl rfl hl.1 rfl (lv_room (Nat.le_of_ble_eq_true rfl)) dX3_closes_48 ⟨Nat.le_of_ble_eq_true rfl, Nat.le_of_ble_eq_true rfl⟩) hP hD hS hA cM_fst (fun H locs hw hP hD hS => ?_)
      have hP : va_P G vwCl (cM T x1 A I1 (mClear F j)) H := hP
      have hD : va_D (va_A (cM T x1 A I1 F) s.heap.size) (cM T x1 A I1 (mClear F j)) := hD
      refine lv_aload_n hx hb dX3_closes_51 rfl (lv_at hl 3 rfl) ?_
      refine va_get (D := G) (ci := 3) (v := .ref (A 3)) (C := RX3) (T := TX3) (N := 18) hx hb hts hiRX3 hown hK hP 0 rfl rfl 3 (by decide) (hts (.fieldLink RX3 13 "NameAuctionModel" "state" "[I") (by decide +kernel)) (fun _ h9 => h9) rfl dX3_closes_52 ?_
      refine lv_iload_n hx hb dX3_closes_55 rfl (lv_at hl 4 rfl) ?_
      refine lv_iconst (v := 0) hx hb dX3_closes_56 (by decide) ?_
      refine giast (j := j) hx hb hK hP hD hS 2 0 rfl rfl (show (nI j : Int32) = nI j from rfl) (by omega) (by decide) dX3_closes_57 (fun H locs hP hD hS => ?_)
      have hP : va_P G vwCl (cM T x1 A I1 (updA (mClear F j) 3 (upd ((mClear F j) 3) j 0))) H := hP
      have hD : va_D (va_A (cM T x1 A I1 F) s.heap.size) (cM T x1 A I1 (updA (mClear F j) 3 (upd ((mClear F j) 3) j 0))) := hD
      refine lv_iload_n hx hb dX3_closes_58 rfl (lv_at hl 2 rfl) ?_
      refine lv_iconst (v := (-1)) hx hb dX3_closes_59 (by decide) ?_
      refine lv_icmp_eq (tgt := 76) hx hb dX3_closes_60 (by decide) (fun c60 => ?_) (fun c60 => ?_)
      · skip
        refine lv_iload_n hx hb dX3_closes_76 rfl (lv_at hl 2 rfl) ?_
        refine lv_iconst (v := (-1)) hx hb dX3_closes_77 (by decide) ?_
        refine lv_icmp_ne (tgt := 85) hx hb dX3_closes_78 (by decide) (fun c78 => ?_) (fun c78 => ?_)
        · exact absurd c9 c78
        · skip
          refine lv_iconst (v := 0) hx hb dX3_closes_81 (by decide) ?_
          refine lv_goto (tgt := 86) hx hb dX3_closes_82 (by decide) ?_
          exact W.iret (v := 0) hx hb hr (fun t ht9 hW => ⟨⟨0, (), rfl, by simp [mClR, c9, c25, c60, c78, hw2], gBi ht9 (gfin hP (by first | (simp only [mClI, mClF, mFree, mPrice, c9, c25, c60, c78, hw2]; done) | (simp only [mClI, mClF, mFree, mPrice, c9, c25, c60, c78, hw2]; rfl)))⟩, hS.F ht9⟩) hS.2.2 dX3_closes_86
      · exact absurd c9 c60
abbrev PX3_goesOn (G : va_G) (T : Nat → ClassId) (x1 : Nat) (A : Nat → Nat) (I1 : Nat → Int32) (F : Nat → Nat → Int32) (j : Nat) (sz : Nat) : Array Value → State → Prop := gPc G T [.ref x1, .int (nI j)] (cM T x1 A I1 F) sz
abbrev QX3_goesOn (G : va_G) (T : Nat → ClassId) (x1 : Nat) (A : Nat → Nat) (I1 : Nat → Int32) (F : Nat → Nat → Int32) (j : Nat) (sz : Nat) : Array Value → State → Outcome → State → Prop := va_Qi (fun (r : Int32) (_ : Unit) => r = mGoR I1 F j) (gB G (cM T x1 A (mGoI I1 F j) (mGoF I1 F j))) (va_A (cM T x1 A I1 F) sz)
set_option maxHeartbeats 4000000 in
set_option maxRecDepth 100000 in
theorem kX3_goesOn (l : Launch) (G : va_G) (T : Nat → ClassId) (x1 : Nat) (A : Nat → Nat) (I1 : Nat → Int32) (F : Nat → Nat → Int32) (j : Nat) (sz : Nat) (hj : j < 16) : Met l yX3_goesOn wsX3_goesOn ({ frames := 2, cells := 0, slots := 0, locals := 51 } : Room) (PX3_goesOn G T x1 A I1 F j sz) (QX3_goesOn G T x1 A I1 F j sz) 0 0 (va_A (cM T x1 A I1 F) sz) := by
  refine Met.ofW (cc := cX3_goesOn) (maxL := 3) (ret := (some .int)) (by decide) rfl ?_
  intro p e s m args below meth c s₁ B hml hv
  obtain ⟨rfl, hsz, hP, hK, hD0, hE⟩ := hv
  have hx := B.exec
  have hb := B.bytes
  have hr := B.returns
  have hts := atoms_spec (ws := wsX3_goesOn) B.pre
  have hown : s.vm.findClass RX3 = some m.cls := findClass_of_methodNamed B.named
  have hlocks := B.notSynchronized
  subst hsz
  have hD := hD0.self (sz := s.heap.size)
  have hA : ∀ q : Nat, s.heap.size ≤ q → (va_A (cM T x1 A I1 F) s.heap.size) q := fun q h => Or.inr h
  have hS : va_S (va_A (cM T x1 A I1 F) s.heap.size) s.heap s.heap [] := va_S.rf
  have hiRX3 : ∀ w ∈ u_ws RX3 TX3 18, w ∈ wsX3_goesOn := by decide +kernel
  have hl := lv_entry ([.ref x1, .int (nI j)]) (n := 3) (Nat.le_of_ble_eq_true rfl)
  rw [lg_entry_eq]
  generalize (lg_sl ([.ref x1, .int (nI j)]) ++ List.replicate (3 - (lg_sl ([.ref x1, .int (nI j)])).length) Slot.unset).toArray = ls at hl ⊢
  have hl : lv_has ls 3 [(0, .ref x1), (1, .int (nI j))] := hl
  have hP : va_P G vwCl (cM T x1 A I1 F) s.heap := hP
  refine lv_aload_n hx hb dX3_goesOn_0 rfl (lv_at hl 0 rfl) ?_
  refine lv_iload_n hx hb dX3_goesOn_1 rfl (lv_at hl 1 rfl) ?_
  refine gciT (X := ([] : va_W)) (va_runV (As := [.int (nI j)]) (rest := []) ⟨hx, hb, hml, hown, hts⟩ (kX3_nextOf l G T x1 A I1 F j _ (by omega)) (cwV 1 hts gX3_goesOn_X3_nextOf rfl rfl rfl (by decide +kernel) ⟨Nat.le_of_ble_eq_true rfl, Nat.le_of_ble_eq_true rfl⟩) ⟨gblind, va_recv hK hP (ci := 3) (q0 := 0) rfl rfl, gpreT (X := ([] : va_W)) hE hK hP hD hS hA⟩ rfl rfl hl.1 rfl (lv_room (Nat.le_of_ble_eq_true rfl)) dX3_goesOn_2 ⟨Nat.le_of_ble_eq_true rfl, Nat.le_of_ble_eq_true rfl⟩) hP hD hS hA cM_fst (fun r9 H locs hw hP hD hS => ?_)
  have hP : va_P G vwCl (cM T x1 A I1 F) H := hP
  have hD : va_D (va_A (cM T x1 A I1 F) s.heap.size) (cM T x1 A I1 F) := hD
  subst hw
  refine lv_aload_n hx hb dX3_goesOn_5 rfl (lv_at hl 0 rfl) ?_
  refine va_get (D := G) (ci := 3) (v := .int (I1 0)) (C := RX3) (T := TX3) (N := 18) hx hb hts hiRX3 hown hK hP 0 rfl rfl 0 (by decide) (hts (.fieldLink RX3 71 "NameAuctionModel" "today" "I") (by decide +kernel)) (fun _ h9 => h9) rfl dX3_goesOn_6 ?_
  refine lv_icmp_eq (tgt := 14) hx hb dX3_goesOn_9 (by decide) (fun c9 => ?_) (fun c9 => ?_)
  · skip
    refine lv_aload_n hx hb dX3_goesOn_14 rfl (lv_at hl 0 rfl) ?_
    refine va_get (D := G) (ci := 3) (v := .ref (A 3)) (C := RX3) (T := TX3) (N := 18) hx hb hts hiRX3 hown hK hP 0 rfl rfl 3 (by decide) (hts (.fieldLink RX3 13 "NameAuctionModel" "state" "[I") (by decide +kernel)) (fun _ h9 => h9) rfl dX3_goesOn_15 ?_
    refine lv_iload_n hx hb dX3_goesOn_18 rfl (lv_at hl 1 rfl) ?_
    refine giald (j := j) hx hb hK hP 2 0 rfl rfl (show (nI j : Int32) = nI j from rfl) (by omega) (by decide) dX3_goesOn_19 ?_
    refine lv_iconst (v := 1) hx hb dX3_goesOn_20 (by decide) ?_
    refine lv_icmp_ne (tgt := 30) hx hb dX3_goesOn_21 (by decide) (fun c21 => ?_) (fun c21 => ?_)
    · skip
      refine lv_aload_n hx hb dX3_goesOn_30 rfl (lv_at hl 0 rfl) ?_
      refine va_get (D := G) (ci := 3) (v := .ref (A 3)) (C := RX3) (T := TX3) (N := 18) hx hb hts hiRX3 hown hK hP 0 rfl rfl 3 (by decide) (hts (.fieldLink RX3 13 "NameAuctionModel" "state" "[I") (by decide +kernel)) (fun _ h9 => h9) rfl dX3_goesOn_31 ?_
      refine lv_iload_n hx hb dX3_goesOn_34 rfl (lv_at hl 1 rfl) ?_
      refine giald (j := j) hx hb hK hP 2 0 rfl rfl (show (nI j : Int32) = nI j from rfl) (by omega) (by decide) dX3_goesOn_35 ?_
      refine lv_iconst (v := 4) hx hb dX3_goesOn_36 (by decide) ?_
      refine lv_icmp_ne (tgt := 44) hx hb dX3_goesOn_37 (by decide) (fun c37 => ?_) (fun c37 => ?_)
      · skip
        refine lv_iconst (v := 0) hx hb dX3_goesOn_44 (by decide) ?_
        refine lv_istore_n (lv' := [(2, .int 0), (0, .ref x1), (1, .int (nI j))]) hx hb dX3_goesOn_45 rfl hl (by decide) rfl (fun ls hl => ?_)
        refine lv_aload_n hx hb dX3_goesOn_46 rfl (lv_at hl 1 rfl) ?_
        refine va_get (D := G) (ci := 3) (v := .ref (A 3)) (C := RX3) (T := TX3) (N := 18) hx hb hts hiRX3 hown hK hP 0 rfl rfl 3 (by decide) (hts (.fieldLink RX3 13 "NameAuctionModel" "state" "[I") (by decide +kernel)) (fun _ h9 => h9) rfl dX3_goesOn_47 ?_
        refine lv_iload_n hx hb dX3_goesOn_50 rfl (lv_at hl 2 rfl) ?_
        refine lv_iload_n hx hb dX3_goesOn_51 rfl (lv_at hl 0 rfl) ?_
        refine lv_if_eq (tgt := 59) hx hb dX3_goesOn_52 (by decide) (fun c52 => ?_) (fun c52 => ?_)
        · skip
          refine lv_aload_n hx hb dX3_goesOn_59 rfl (lv_at hl 1 rfl) ?_
          refine va_get (D := G) (ci := 3) (v := .ref (A 3)) (C := RX3) (T := TX3) (N := 18) hx hb hts hiRX3 hown hK hP 0 rfl rfl 3 (by decide) (hts (.fieldLink RX3 13 "NameAuctionModel" "state" "[I") (by decide +kernel)) (fun _ h9 => h9) rfl dX3_goesOn_60 ?_
          refine lv_iload_n hx hb dX3_goesOn_63 rfl (lv_at hl 2 rfl) ?_
          refine giald (j := j) hx hb hK hP 2 0 rfl rfl (show (nI j : Int32) = nI j from rfl) (by omega) (by decide) dX3_goesOn_64 ?_
          refine lv_iconst (v := 1) hx hb dX3_goesOn_65 (by decide) ?_
          refine lv_iadd hx hb dX3_goesOn_66 ?_
          refine giast (j := j) hx hb hK hP hD hS 2 0 rfl rfl (show (nI j : Int32) = nI j from rfl) (by omega) (by decide) dX3_goesOn_67 (fun H locs hP hD hS => ?_)
          have hP : va_P G vwCl (cM T x1 A I1 (updA F 3 (upd (F 3) j (((F 3) j) + 1)))) H := hP
          have hD : va_D (va_A (cM T x1 A I1 F) s.heap.size) (cM T x1 A I1 (updA F 3 (upd (F 3) j (((F 3) j) + 1)))) := hD
          refine lv_aload_n hx hb dX3_goesOn_68 rfl (lv_at hl 1 rfl) ?_
          refine va_get (D := G) (ci := 3) (v := .ref (A 4)) (C := RX3) (T := TX3) (N := 18) hx hb hts hiRX3 hown hK hP 0 rfl rfl 4 (by decide) (hts (.fieldLink RX3 16 "NameAuctionModel" "owner" "[I") (by decide +kernel)) (fun _ h9 => h9) rfl dX3_goesOn_69 ?_
          refine lv_iload_n hx hb dX3_goesOn_72 rfl (lv_at hl 2 rfl) ?_
          refine lv_iload_n hx hb dX3_goesOn_73 rfl (lv_at hl 0 rfl) ?_
          refine lv_if_eq (tgt := 81) hx hb dX3_goesOn_74 (by decide) (fun c74 => ?_) (fun c74 => ?_)
          · skip
            refine lv_aload_n hx hb dX3_goesOn_81 rfl (lv_at hl 1 rfl) ?_
            refine va_get (D := G) (ci := 3) (v := .ref (A 4)) (C := RX3) (T := TX3) (N := 18) hx hb hts hiRX3 hown hK hP 0 rfl rfl 4 (by decide) (hts (.fieldLink RX3 16 "NameAuctionModel" "owner" "[I") (by decide +kernel)) (fun _ h9 => h9) rfl dX3_goesOn_82 ?_
            refine lv_iload_n hx hb dX3_goesOn_85 rfl (lv_at hl 2 rfl) ?_
            refine giald (j := j) hx hb hK hP 3 0 rfl rfl (show (nI j : Int32) = nI j from rfl) (by omega) (by decide) dX3_goesOn_86 ?_
            refine giast (j := j) hx hb hK hP hD hS 3 0 rfl rfl (show (nI j : Int32) = nI j from rfl) (by omega) (by decide) dX3_goesOn_87 (fun H locs hP hD hS => ?_)
            have hP : va_P G vwCl (cM T x1 A I1 (updA (updA F 3 (upd (F 3) j (((F 3) j) + 1))) 4 (upd (F 4) j ((F 4) j)))) H := hP
            have hD : va_D (va_A (cM T x1 A I1 F) s.heap.size) (cM T x1 A I1 (updA (updA F 3 (upd (F 3) j (((F 3) j) + 1))) 4 (upd (F 4) j ((F 4) j)))) := hD
            refine lv_iconst (v := 0) hx hb dX3_goesOn_88 (by decide) ?_
            exact W.iret (v := 0) hx hb hr (fun t ht9 hW => ⟨⟨0, (), rfl, by simp [mGoR, c9, c21, c37, c52, c74], gBi ht9 (gfin hP (by simp [mGoI, mGoF, c9, c21, c37, c52, c74]))⟩, hS.F ht9⟩) hS.2.2 dX3_goesOn_89
          · exact absurd c74 (by decide)
        · exact absurd c52 (by decide)
      · skip
        refine lv_iconst (v := 1) hx hb dX3_goesOn_40 (by decide) ?_
        refine lv_goto (tgt := 45) hx hb dX3_goesOn_41 (by decide) ?_
        refine lv_istore_n (lv' := [(2, .int 1), (0, .ref x1), (1, .int (nI j))]) hx hb dX3_goesOn_45 rfl hl (by decide) rfl (fun ls hl => ?_)
        refine lv_aload_n hx hb dX3_goesOn_46 rfl (lv_at hl 1 rfl) ?_
        refine va_get (D := G) (ci := 3) (v := .ref (A 3)) (C := RX3) (T := TX3) (N := 18) hx hb hts hiRX3 hown hK hP 0 rfl rfl 3 (by decide) (hts (.fieldLink RX3 13 "NameAuctionModel" "state" "[I") (by decide +kernel)) (fun _ h9 => h9) rfl dX3_goesOn_47 ?_
        refine lv_iload_n hx hb dX3_goesOn_50 rfl (lv_at hl 2 rfl) ?_
        refine lv_iload_n hx hb dX3_goesOn_51 rfl (lv_at hl 0 rfl) ?_
        refine lv_if_eq (tgt := 59) hx hb dX3_goesOn_52 (by decide) (fun c52 => ?_) (fun c52 => ?_)
        · exact absurd c52 (by decide)
        · skip
          refine lv_iconst (v := 0) hx hb dX3_goesOn_55 (by decide) ?_
          refine lv_goto (tgt := 67) hx hb dX3_goesOn_56 (by decide) ?_
          refine giast (j := j) hx hb hK hP hD hS 2 0 rfl rfl (show (nI j : Int32) = nI j from rfl) (by omega) (by decide) dX3_goesOn_67 (fun H locs hP hD hS => ?_)
          have hP : va_P G vwCl (cM T x1 A I1 (updA F 3 (upd (F 3) j 0))) H := hP
          have hD : va_D (va_A (cM T x1 A I1 F) s.heap.size) (cM T x1 A I1 (updA F 3 (upd (F 3) j 0))) := hD
          refine lv_aload_n hx hb dX3_goesOn_68 rfl (lv_at hl 1 rfl) ?_
          refine va_get (D := G) (ci := 3) (v := .ref (A 4)) (C := RX3) (T := TX3) (N := 18) hx hb hts hiRX3 hown hK hP 0 rfl rfl 4 (by decide) (hts (.fieldLink RX3 16 "NameAuctionModel" "owner" "[I") (by decide +kernel)) (fun _ h9 => h9) rfl dX3_goesOn_69 ?_
          refine lv_iload_n hx hb dX3_goesOn_72 rfl (lv_at hl 2 rfl) ?_
          refine lv_iload_n hx hb dX3_goesOn_73 rfl (lv_at hl 0 rfl) ?_
          refine lv_if_eq (tgt := 81) hx hb dX3_goesOn_74 (by decide) (fun c74 => ?_) (fun c74 => ?_)
          · exact absurd c74 (by decide)
          · skip
            refine lv_iconst (v := (-1)) hx hb dX3_goesOn_77 (by decide) ?_
            refine lv_goto (tgt := 87) hx hb dX3_goesOn_78 (by decide) ?_
            refine giast (j := j) hx hb hK hP hD hS 3 0 rfl rfl (show (nI j : Int32) = nI j from rfl) (by omega) (by decide) dX3_goesOn_87 (fun H locs hP hD hS => ?_)
            have hP : va_P G vwCl (cM T x1 A I1 (updA (updA F 3 (upd (F 3) j 0)) 4 (upd (F 4) j (-1)))) H := hP
            have hD : va_D (va_A (cM T x1 A I1 F) s.heap.size) (cM T x1 A I1 (updA (updA F 3 (upd (F 3) j 0)) 4 (upd (F 4) j (-1)))) := hD
            refine lv_iconst (v := 0) hx hb dX3_goesOn_88 (by decide) ?_
            exact W.iret (v := 0) hx hb hr (fun t ht9 hW => ⟨⟨0, (), rfl, by simp [mGoR, c9, c21, c37, c52, c74], gBi ht9 (gfin hP (by simp [mGoI, mGoF, c9, c21, c37, c52, c74]))⟩, hS.F ht9⟩) hS.2.2 dX3_goesOn_89
    · skip
      refine lv_aload_n hx hb dX3_goesOn_24 rfl (lv_at hl 0 rfl) ?_
      refine lv_iload_n hx hb dX3_goesOn_25 rfl (lv_at hl 1 rfl) ?_
      refine gciT (X := ([] : va_W)) (va_runV (As := [.int (nI j)]) (rest := []) ⟨hx, hb, hml, hown, hts⟩ (kX3_closes l G T x1 A I1 F j _ (by omega)) (cwV 1 hts gX3_goesOn_X3_closes rfl rfl rfl (by decide +kernel) ⟨Nat.le_of_ble_eq_true rfl, Nat.le_of_ble_eq_true rfl⟩) ⟨gblind, va_recv hK hP (ci := 3) (q0 := 0) rfl rfl, gpreT (X := ([] : va_W)) hE hK hP hD hS hA⟩ rfl rfl hl.1 rfl (lv_room (Nat.le_of_ble_eq_true rfl)) dX3_goesOn_26 ⟨Nat.le_of_ble_eq_true rfl, Nat.le_of_ble_eq_true rfl⟩) hP hD hS hA cM_fst (fun r9 H locs hw hP hD hS => ?_)
      have hP : va_P G vwCl (cM T x1 A (mClI I1 F j) (mClF F j (I1 0))) H := hP
      have hD : va_D (va_A (cM T x1 A I1 F) s.heap.size) (cM T x1 A (mClI I1 F j) (mClF F j (I1 0))) := hD
      subst hw
      exact W.iret (v := mClR F j) hx hb hr (fun t ht9 hW => ⟨⟨mClR F j, (), rfl, by simp [mGoR, c9, c21], gBi ht9 (gfin hP (by simp [mGoI, mGoF, c9, c21]))⟩, hS.F ht9⟩) hS.2.2 dX3_goesOn_29
  · skip
    refine lv_iconst (v := 0) hx hb dX3_goesOn_12 (by decide) ?_
    exact W.iret (v := 0) hx hb hr (fun t ht9 hW => ⟨⟨0, (), rfl, by simp [mGoR, c9], gBi ht9 (gfin hP (by simp [mGoI, mGoF, c9]))⟩, hS.F ht9⟩) hS.2.2 dX3_goesOn_13
abbrev PX3_pass (G : va_G) (T : Nat → ClassId) (x1 : Nat) (A : Nat → Nat) (I1 : Nat → Int32) (F : Nat → Nat → Int32) (p0 : Int32) (sz : Nat) : Array Value → State → Prop := gPc G T [.ref x1, .int p0] (cM T x1 A I1 F) sz
abbrev QX3_pass (G : va_G) (T : Nat → ClassId) (x1 : Nat) (A : Nat → Nat) (I1 : Nat → Int32) (F : Nat → Nat → Int32) (p0 : Int32) (sz : Nat) : Array Value → State → Outcome → State → Prop := va_Qi (fun (r : Int32) (_ : Unit) => r = if (kDays p0) = 0 then (mDays p0.toNatClampNeg ((upd I1 17 0), F, 0)).2.2 else 0) (gB G (cM T x1 A (if (kDays p0) = 0 then (mDays p0.toNatClampNeg ((upd I1 17 0), F, 0)).1 else upd I1 17 (w1 (kDays p0))) (if (kDays p0) = 0 then (mDays p0.toNatClampNeg ((upd I1 17 0), F, 0)).2.1 else F))) (va_A (cM T x1 A I1 F) sz)
set_option maxHeartbeats 4000000 in
set_option maxRecDepth 100000 in
theorem kX3_pass (l : Launch) (G : va_G) (T : Nat → ClassId) (x1 : Nat) (A : Nat → Nat) (I1 : Nat → Int32) (F : Nat → Nat → Int32) (p0 : Int32) (sz : Nat)  : Met l yX3_pass wsX3_pass ({ frames := 3, cells := 0, slots := 0, locals := 73 } : Room) (PX3_pass G T x1 A I1 F p0 sz) (QX3_pass G T x1 A I1 F p0 sz) 0 0 (va_A (cM T x1 A I1 F) sz) := by
  refine Met.ofW (cc := cX3_pass) (maxL := 5) (ret := (some .int)) (by decide) rfl ?_
  intro p e s m args below meth c s₁ B hml hv
  obtain ⟨rfl, hsz, hP, hK, hD0, hE⟩ := hv
  have hx := B.exec
  have hb := B.bytes
  have hr := B.returns
  have hts := atoms_spec (ws := wsX3_pass) B.pre
  have hown : s.vm.findClass RX3 = some m.cls := findClass_of_methodNamed B.named
  have hlocks := B.notSynchronized
  subst hsz
  have hD := hD0.self (sz := s.heap.size)
  have hA : ∀ q : Nat, s.heap.size ≤ q → (va_A (cM T x1 A I1 F) s.heap.size) q := fun q h => Or.inr h
  have hS : va_S (va_A (cM T x1 A I1 F) s.heap.size) s.heap s.heap [] := va_S.rf
  have hiRX3 : ∀ w ∈ u_ws RX3 TX3 18, w ∈ wsX3_pass := by decide +kernel
  have hl := lv_entry ([.ref x1, .int p0]) (n := 5) (Nat.le_of_ble_eq_true rfl)
  rw [lg_entry_eq]
  generalize (lg_sl ([.ref x1, .int p0]) ++ List.replicate (5 - (lg_sl ([.ref x1, .int p0])).length) Slot.unset).toArray = ls at hl ⊢
  have hl : lv_has ls 5 [(0, .ref x1), (1, .int p0)] := hl
  have hP : va_P G vwCl (cM T x1 A I1 F) s.heap := hP
  refine lv_aload_n hx hb dX3_pass_0 rfl (lv_at hl 0 rfl) ?_
  refine lv_iload_n hx hb dX3_pass_1 rfl (lv_at hl 1 rfl) ?_
  refine lv_iconst (v := 1) hx hb dX3_pass_2 (by decide) ?_
  refine lv_sipush (v := 200) hx hb dX3_pass_3 (by decide) ?_
  refine gci (va_runS (As := [.int p0, .int 1, .int 200]) (rest := [.ref x1]) ⟨hx, hb, hml, hown, hts⟩ (kX3_isIn l G T p0 1 200 _) (va_cwS 3 hts gX3_pass_X3_isIn rfl rfl rfl (by decide +kernel) ⟨Nat.le_of_ble_eq_true rfl, Nat.le_of_ble_eq_true rfl⟩) ⟨gblind, gpre hE hK hP hD hS hA [] rfl rfl⟩ rfl rfl hl.1 rfl (lv_room (Nat.le_of_ble_eq_true rfl)) dX3_pass_6 ⟨Nat.le_of_ble_eq_true rfl, Nat.le_of_ble_eq_true rfl⟩) hP hD hS hA [] rfl rfl (fun r9 H locs hw hP hD hS => ?_)
  have hP : va_P G vwCl (cM T x1 A I1 F) H := hP
  have hD : va_D (va_A (cM T x1 A I1 F) s.heap.size) (cM T x1 A I1 F) := hD
  subst hw
  refine lv_if_eq (tgt := 16) hx hb dX3_pass_9 (by decide) (fun c9 => ?_) (fun c9 => ?_)
  · skip
    have t9 : (okR p0 1 200) = false := bI_f c9
    refine lv_iconst (v := 1) hx hb dX3_pass_16 (by decide) ?_
    refine gciT (X := ([] : va_W)) (va_runV (As := [.int 1]) (rest := []) ⟨hx, hb, hml, hown, hts⟩ (kX3_fails l G T x1 A I1 F 1 _) (cwV 1 hts gX3_pass_X3_fails rfl rfl rfl (by decide +kernel) ⟨Nat.le_of_ble_eq_true rfl, Nat.le_of_ble_eq_true rfl⟩) ⟨gblind, va_recv hK hP (ci := 3) (q0 := 0) rfl rfl, gpreT (X := ([] : va_W)) hE hK hP hD hS hA⟩ rfl rfl hl.1 rfl (lv_room (Nat.le_of_ble_eq_true rfl)) dX3_pass_17 ⟨Nat.le_of_ble_eq_true rfl, Nat.le_of_ble_eq_true rfl⟩) hP hD hS hA cM_fst (fun r9 H locs hw hP hD hS => ?_)
    have hP : va_P G vwCl (cM T x1 A (upd I1 17 1) F) H := hP
    have hD : va_D (va_A (cM T x1 A I1 F) s.heap.size) (cM T x1 A (upd I1 17 1) F) := hD
    subst hw
    refine gtop (y := 1) (by decide) ?_
    refine lv_if_eq (tgt := 25) hx hb dX3_pass_20 (by decide) (fun c20 => ?_) (fun c20 => ?_)
    · exact absurd c20 (by decide)
    · skip
      refine lv_iconst (v := 0) hx hb dX3_pass_23 (by decide) ?_
      exact W.iret (v := 0) hx hb hr (fun t ht9 hW => ⟨⟨0, (), rfl, (if_neg (by simp [kDays, c20, t9])).symm, gBi ht9 (gfin hP (mfinF (by simp [kDays, c20, t9]) (congrArg (upd I1 17) (by simp [w1, kDays, c20, t9])) rfl))⟩, hS.F ht9⟩) hS.2.2 dX3_pass_24
  · skip
    have t9 : (okR p0 1 200) = true := bI_t c9
    refine lv_iconst (v := 0) hx hb dX3_pass_12 (by decide) ?_
    refine lv_goto (tgt := 17) hx hb dX3_pass_13 (by decide) ?_
    refine gciT (X := ([] : va_W)) (va_runV (As := [.int 0]) (rest := []) ⟨hx, hb, hml, hown, hts⟩ (kX3_fails l G T x1 A I1 F 0 _) (cwV 1 hts gX3_pass_X3_fails rfl rfl rfl (by decide +kernel) ⟨Nat.le_of_ble_eq_true rfl, Nat.le_of_ble_eq_true rfl⟩) ⟨gblind, va_recv hK hP (ci := 3) (q0 := 0) rfl rfl, gpreT (X := ([] : va_W)) hE hK hP hD hS hA⟩ rfl rfl hl.1 rfl (lv_room (Nat.le_of_ble_eq_true rfl)) dX3_pass_17 ⟨Nat.le_of_ble_eq_true rfl, Nat.le_of_ble_eq_true rfl⟩) hP hD hS hA cM_fst (fun r9 H locs hw hP hD hS => ?_)
    have hP : va_P G vwCl (cM T x1 A (upd I1 17 0) F) H := hP
    have hD : va_D (va_A (cM T x1 A I1 F) s.heap.size) (cM T x1 A (upd I1 17 0) F) := hD
    subst hw
    refine gtop (y := 0) (by decide) ?_
    refine lv_if_eq (tgt := 25) hx hb dX3_pass_20 (by decide) (fun c20 => ?_) (fun c20 => ?_)
    · skip
      obtain ⟨n, hn, en⟩ := okR_nat t9
      refine lv_iconst (v := 0) hx hb dX3_pass_25 (by decide) ?_
      refine lv_istore_n (lv' := [(2, .int 0), (0, .ref x1), (1, .int p0)]) hx hb dX3_pass_26 rfl hl (by decide) rfl (fun ls hl => ?_)
      refine lv_iconst (v := 0) hx hb dX3_pass_27 (by decide) ?_
      refine lv_istore_n (lv' := [(3, .int 0), (2, .int 0), (0, .ref x1), (1, .int p0)]) hx hb dX3_pass_28 rfl hl (by decide) rfl (fun ls hl => ?_)
      have J29 : ∀ n9 : Nat, ∀ (k : Nat) (I2 : Nat → Int32) (F2 : Nat → Nat → Int32) (w1 : Int32) (H : Heap) (locs : List Loc) (ls : Array Slot), (k ≤ n) → (n + 1 ≤ k + n9) → (mDays k ((upd I1 17 0), F, 0) = (I2, F2, w1)) → va_P G vwCl (cM T x1 A I2 F2) H → va_D (va_A (cM T x1 A I1 F) s.heap.size) (cM T x1 A I2 F2) → va_S (va_A (cM T x1 A I1 F) s.heap.size) s.heap H locs → lv_has ls 5 [(0, .ref x1), (1, .int p0), (2, .int w1), (3, .int (nI k))] → W p l e (headSpec wsX3_pass ({ frames := 3, cells := 0, slots := 0, locals := 73 } : Room)).room s m ([.ref x1, .int p0] : List Value).toArray below meth c H locs 0 0 (MQ below (QX3_pass G T x1 A I1 F p0 s.heap.size) ([.ref x1, .int p0] : List Value).toArray s 0 0 (va_A (cM T x1 A I1 F) s.heap.size)) (F0 m 29 ls []) := by
        intro n9
        induction n9 with
        | zero => intro k I2 F2 w1 H locs ls hi hm hc hP hD hS hl; exact absurd (hm) (by omega)
        | succ n9 ih29 =>
          intro k I2 F2 w1 H locs ls hi hm hc hP hD hS hl
          refine lv_iload_n hx hb dX3_pass_29 rfl (lv_at hl 3 rfl) ?_
          refine lv_iload_n hx hb dX3_pass_30 rfl (lv_at hl 1 rfl) ?_
          refine lv_icmp_ge (tgt := 75) hx hb dX3_pass_31 (by decide) (fun c31 => ?_) (fun c31 => ?_)
          · skip
            rw [en] at c31
            have hge : k = n := by
              rcases Nat.lt_or_ge k n with q | q
              · exact absurd c31 (nI_ge q (by omega))
              · omega
            have hn9 : p0.toNatClampNeg = k := by rw [en, hge]; exact nI_clamp (by omega)
            refine lv_iload_n hx hb dX3_pass_75 rfl (lv_at hl 2 rfl) ?_
            exact W.iret (v := w1) hx hb hr (fun t ht9 hW => ⟨⟨w1, (), rfl, (by rw [if_pos (show kDays p0 = 0 by simp [kDays, t9]), hn9, hc]), gBi ht9 (gfin hP (mfinT (by simp [kDays, t9]) (by rw [hn9, hc]) (by rw [hn9, hc])))⟩, hS.F ht9⟩) hS.2.2 dX3_pass_76
          · skip
            rw [en] at c31
            have hlt : k < n := by
              rcases Nat.lt_or_ge k n with q | q
              · exact q
              · exact absurd (nI_le q (by omega)) c31
            refine lv_aload_n hx hb dX3_pass_34 rfl (lv_at hl 0 rfl) ?_
            refine lv_dup hx hb dX3_pass_35 rfl ?_
            refine va_get (D := G) (ci := 3) (v := .int (I2 0)) (C := RX3) (T := TX3) (N := 18) hx hb hts hiRX3 hown hK hP 0 rfl rfl 0 (by decide) (hts (.fieldLink RX3 71 "NameAuctionModel" "today" "I") (by decide +kernel)) (fun _ h9 => h9) rfl dX3_pass_36 ?_
            refine lv_iconst (v := 1) hx hb dX3_pass_39 (by decide) ?_
            refine lv_iadd hx hb dX3_pass_40 ?_
            refine va_put (D := G) (ci := 3) (v := .int ((I2 0) + 1)) (ty := .int) (C := RX3) (T := TX3) (N := 18) hx hb hts hiRX3 tyX3 tyX3_ok nmX3 hown hK hP hD hS 0 rfl rfl 0 (by decide) (hts (.fieldLink RX3 71 "NameAuctionModel" "today" "I") (by decide +kernel)) (fun _ h9 => h9) rfl (by decide +kernel) rfl rfl (Nat.le_of_ble_eq_true rfl) dX3_pass_41 (fun H locs hP hD hS => ?_)
            have hP : va_P G vwCl (cM T x1 A (upd I2 0 ((I2 0) + 1)) F2) H := hP
            have hD : va_D (va_A (cM T x1 A I1 F) s.heap.size) (cM T x1 A (upd I2 0 ((I2 0) + 1)) F2) := hD
            refine lv_iconst (v := 0) hx hb dX3_pass_44 (by decide) ?_
            refine lv_istore (lv' := [(4, .int 0), (0, .ref x1), (1, .int p0), (2, .int w1), (3, .int (nI k))]) hx hb dX3_pass_45 hl (by decide) rfl (fun ls hl => ?_)
            have J47 : ∀ n8 : Nat, ∀ (i : Nat) (I3 : Nat → Int32) (F3 : Nat → Nat → Int32) (w3 : Int32) (H : Heap) (locs : List Loc) (ls : Array Slot), (i ≤ 16) → (17 ≤ i + n8) → (mChg i (upd I2 0 (I2 0 + 1), F2, w1) = (I3, F3, w3)) → va_P G vwCl (cM T x1 A I3 F3) H → va_D (va_A (cM T x1 A I1 F) s.heap.size) (cM T x1 A I3 F3) → va_S (va_A (cM T x1 A I1 F) s.heap.size) s.heap H locs → lv_has ls 5 [(0, .ref x1), (1, .int p0), (2, .int w3), (3, .int (nI k)), (4, .int (nI i))] → W p l e (headSpec wsX3_pass ({ frames := 3, cells := 0, slots := 0, locals := 73 } : Room)).room s m ([.ref x1, .int p0] : List Value).toArray below meth c H locs 0 0 (MQ below (QX3_pass G T x1 A I1 F p0 s.heap.size) ([.ref x1, .int p0] : List Value).toArray s 0 0 (va_A (cM T x1 A I1 F) s.heap.size)) (F0 m 47 ls []) := by
              intro n8
              induction n8 with
              | zero => intro i I3 F3 w3 H locs ls hj hm2 hd hP hD hS hl; exact absurd (hm2) (by omega)
              | succ n8 ih47 =>
                intro i I3 F3 w3 H locs ls hj hm2 hd hP hD hS hl
                refine lv_iload hx hb dX3_pass_47 (lv_at hl 4 rfl) ?_
                refine lv_bipush (v := 16) hx hb dX3_pass_49 (by decide) ?_
                refine lv_icmp_ge (tgt := 69) hx hb dX3_pass_51 (by decide) (fun c51 => ?_) (fun c51 => ?_)
                · skip
                  have hge : i = 16 := by
                    rcases Nat.lt_or_ge i 16 with q | q
                    · exact absurd c51 (nI_ge (b := 16) q (by omega))
                    · omega
                  rw [hge] at hd
                  refine lv_iinc (v := nI (k + 1)) (lv' := [(3, .int (nI (k + 1))), (0, .ref x1), (1, .int p0), (2, .int w3), (4, .int (nI i))]) hx hb dX3_pass_69 hl (k := 3) rfl (by first | rfl | exact (nI_add k 1)) (by decide) rfl (fun ls hl => ?_)
                  refine lv_goto (tgt := 29) hx hb dX3_pass_72 (by decide) ?_
                  exact ih29 (k + 1) I3 F3 w3 _ _ _ (by omega) (by omega) (mDays_step hc hd) hP hD hS (lv_sub hl [1, 2, 3, 0] rfl)
                · skip
                  have hlt : i < 16 := by
                    rcases Nat.lt_or_ge i 16 with q | q
                    · exact q
                    · exact absurd (show (16 : Int32) ≤ nI i from nI_le (a := 16) q (by omega)) c51
                  refine lv_iload_n hx hb dX3_pass_54 rfl (lv_at hl 2 rfl) ?_
                  refine lv_aload_n hx hb dX3_pass_55 rfl (lv_at hl 0 rfl) ?_
                  refine lv_iload hx hb dX3_pass_56 (lv_at hl 4 rfl) ?_
                  refine gciT (X := ([] : va_W)) (va_runV (As := [.int (nI i)]) (rest := [.int w3]) ⟨hx, hb, hml, hown, hts⟩ (kX3_goesOn l G T x1 A I3 F3 i _ (by omega)) (cwV 1 hts gX3_pass_X3_goesOn rfl rfl rfl (by decide +kernel) ⟨Nat.le_of_ble_eq_true rfl, Nat.le_of_ble_eq_true rfl⟩) ⟨gblind, va_recv hK hP (ci := 3) (q0 := 0) rfl rfl, gpreT (X := ([] : va_W)) hE hK hP hD hS hA⟩ rfl rfl hl.1 rfl (lv_room (Nat.le_of_ble_eq_true rfl)) dX3_pass_58 ⟨Nat.le_of_ble_eq_true rfl, Nat.le_of_ble_eq_true rfl⟩) hP hD hS hA cM_fst (fun r9 H locs hw hP hD hS => ?_)
                  have hP : va_P G vwCl (cM T x1 A (mGoI I3 F3 i) (mGoF I3 F3 i)) H := hP
                  have hD : va_D (va_A (cM T x1 A I1 F) s.heap.size) (cM T x1 A (mGoI I3 F3 i) (mGoF I3 F3 i)) := hD
                  subst hw
                  refine lv_iadd hx hb dX3_pass_61 ?_
                  refine lv_istore_n (lv' := [(2, .int (w3 + (mGoR I3 F3 i))), (0, .ref x1), (1, .int p0), (3, .int (nI k)), (4, .int (nI i))]) hx hb dX3_pass_62 rfl hl (by decide) rfl (fun ls hl => ?_)
                  refine lv_iinc (v := nI (i + 1)) (lv' := [(4, .int (nI (i + 1))), (2, .int (w3 + (mGoR I3 F3 i))), (0, .ref x1), (1, .int p0), (3, .int (nI k))]) hx hb dX3_pass_63 hl (k := 4) rfl (by first | rfl | exact (nI_add i 1)) (by decide) rfl (fun ls hl => ?_)
                  refine lv_goto (tgt := 47) hx hb dX3_pass_66 (by decide) ?_
                  exact ih47 (i + 1) (mGoI I3 F3 i) (mGoF I3 F3 i) (w3 + (mGoR I3 F3 i)) _ _ _ (by omega) (by omega) (by simp only [mChg, hd]) hP hD hS (lv_sub hl [2, 3, 1, 4, 0] rfl)
            exact J47 17 0 (upd I2 0 ((I2 0) + 1)) F2 w1 _ _ _ (by omega) (by omega) rfl hP hD hS (lv_sub hl [1, 2, 3, 4, 0] rfl)
      exact J29 (n + 1) 0 (upd I1 17 0) F 0 _ _ _ (by omega) (by omega) rfl hP hD hS (lv_sub hl [2, 3, 1, 0] rfl)
    · exact absurd c20 (by decide)
abbrev PX3_lookUp (G : va_G) (T : Nat → ClassId) (x1 : Nat) (A : Nat → Nat) (I1 : Nat → Int32) (F : Nat → Nat → Int32) (q j : Nat) (p0 p1 : Int32) (sz : Nat) : Array Value → State → Prop := gPc G T [.ref x1, .int p0, .int p1] (cM T x1 A I1 F) sz
abbrev QX3_lookUp (G : va_G) (T : Nat → ClassId) (x1 : Nat) (A : Nat → Nat) (I1 : Nat → Int32) (F : Nat → Nat → Int32) (q j : Nat) (p0 p1 : Int32) (sz : Nat) : Array Value → State → Outcome → State → Prop := va_Qi (fun (r : Int32) (_ : Unit) => r = if (kRN p0 p1) = 0 then mLookF I1 F (16 * q + j) j 15 (16 * q + j) else 0) (gB G (cM T x1 A (if (kRN p0 p1) = 0 then (upd I1 17 0) else upd I1 17 (w3 (kRN p0 p1))) (if (kRN p0 p1) = 0 then (mLookF I1 F (16 * q + j) j) else F))) (va_A (cM T x1 A I1 F) sz)
set_option maxHeartbeats 4000000 in
set_option maxRecDepth 100000 in
theorem kX3_lookUp (l : Launch) (G : va_G) (T : Nat → ClassId) (x1 : Nat) (A : Nat → Nat) (I1 : Nat → Int32) (F : Nat → Nat → Int32) (q j : Nat) (p0 p1 : Int32) (sz : Nat) (hq : okI p0 3 = true → p0 = nI q ∧ q < 3) (hj : okI p1 16 = true → p1 = nI j ∧ j < 16) : Met l yX3_lookUp wsX3_lookUp ({ frames := 3, cells := 0, slots := 0, locals := 64 } : Room) (PX3_lookUp G T x1 A I1 F q j p0 p1 sz) (QX3_lookUp G T x1 A I1 F q j p0 p1 sz) 0 0 (va_A (cM T x1 A I1 F) sz) := by
  refine Met.ofW (cc := cX3_lookUp) (maxL := 4) (ret := (some .int)) (by decide) rfl ?_
  intro p e s m args below meth c s₁ B hml hv
  obtain ⟨rfl, hsz, hP, hK, hD0, hE⟩ := hv
  have hx := B.exec
  have hb := B.bytes
  have hr := B.returns
  have hts := atoms_spec (ws := wsX3_lookUp) B.pre
  have hown : s.vm.findClass RX3 = some m.cls := findClass_of_methodNamed B.named
  have hlocks := B.notSynchronized
  subst hsz
  have hD := hD0.self (sz := s.heap.size)
  have hA : ∀ q : Nat, s.heap.size ≤ q → (va_A (cM T x1 A I1 F) s.heap.size) q := fun q h => Or.inr h
  have hS : va_S (va_A (cM T x1 A I1 F) s.heap.size) s.heap s.heap [] := va_S.rf
  have hiRX3 : ∀ w ∈ u_ws RX3 TX3 18, w ∈ wsX3_lookUp := by decide +kernel
  have hl := lv_entry ([.ref x1, .int p0, .int p1]) (n := 4) (Nat.le_of_ble_eq_true rfl)
  rw [lg_entry_eq]
  generalize (lg_sl ([.ref x1, .int p0, .int p1]) ++ List.replicate (4 - (lg_sl ([.ref x1, .int p0, .int p1])).length) Slot.unset).toArray = ls at hl ⊢
  have hl : lv_has ls 4 [(0, .ref x1), (1, .int p0), (2, .int p1)] := hl
  have hP : va_P G vwCl (cM T x1 A I1 F) s.heap := hP
  refine lv_aload_n hx hb dX3_lookUp_0 rfl (lv_at hl 0 rfl) ?_
  refine lv_iload_n hx hb dX3_lookUp_1 rfl (lv_at hl 1 rfl) ?_
  refine lv_iload_n hx hb dX3_lookUp_2 rfl (lv_at hl 2 rfl) ?_
  refine gci (va_runS (As := [.int p0, .int p1]) (rest := [.ref x1]) ⟨hx, hb, hml, hown, hts⟩ (kX3_isPlace l G T p0 p1 _) (va_cwS 2 hts gX3_lookUp_X3_isPlace rfl rfl rfl (by decide +kernel) ⟨Nat.le_of_ble_eq_true rfl, Nat.le_of_ble_eq_true rfl⟩) ⟨gblind, gpre hE hK hP hD hS hA [] rfl rfl⟩ rfl rfl hl.1 rfl (lv_room (Nat.le_of_ble_eq_true rfl)) dX3_lookUp_3 ⟨Nat.le_of_ble_eq_true rfl, Nat.le_of_ble_eq_true rfl⟩) hP hD hS hA [] rfl rfl (fun r9 H locs hw hP hD hS => ?_)
  have hP : va_P G vwCl (cM T x1 A I1 F) H := hP
  have hD : va_D (va_A (cM T x1 A I1 F) s.heap.size) (cM T x1 A I1 F) := hD
  subst hw
  refine lv_if_eq (tgt := 13) hx hb dX3_lookUp_6 (by decide) (fun c6 => ?_) (fun c6 => ?_)
  · skip
    have t6 : (okI p0 3 && okI p1 16) = false := bI_f c6
    refine lv_iconst (v := 1) hx hb dX3_lookUp_13 (by decide) ?_
    refine gciT (X := ([] : va_W)) (va_runV (As := [.int 1]) (rest := []) ⟨hx, hb, hml, hown, hts⟩ (kX3_fails l G T x1 A I1 F 1 _) (cwV 1 hts gX3_lookUp_X3_fails rfl rfl rfl (by decide +kernel) ⟨Nat.le_of_ble_eq_true rfl, Nat.le_of_ble_eq_true rfl⟩) ⟨gblind, va_recv hK hP (ci := 3) (q0 := 0) rfl rfl, gpreT (X := ([] : va_W)) hE hK hP hD hS hA⟩ rfl rfl hl.1 rfl (lv_room (Nat.le_of_ble_eq_true rfl)) dX3_lookUp_14 ⟨Nat.le_of_ble_eq_true rfl, Nat.le_of_ble_eq_true rfl⟩) hP hD hS hA cM_fst (fun r9 H locs hw hP hD hS => ?_)
    have hP : va_P G vwCl (cM T x1 A (upd I1 17 1) F) H := hP
    have hD : va_D (va_A (cM T x1 A I1 F) s.heap.size) (cM T x1 A (upd I1 17 1) F) := hD
    subst hw
    refine gtop (y := 1) (by decide) ?_
    refine lv_if_eq (tgt := 22) hx hb dX3_lookUp_17 (by decide) (fun c17 => ?_) (fun c17 => ?_)
    · exact absurd c17 (by decide)
    · skip
      refine lv_iconst (v := 0) hx hb dX3_lookUp_20 (by decide) ?_
      exact W.iret (v := 0) hx hb hr (fun t ht9 hW => ⟨⟨0, (), rfl, (if_neg (by simp [kRN, c17, t6])).symm, gBi ht9 (gfin hP (mfinF (by simp [kRN, c17, t6]) (congrArg (upd I1 17) (by simp [w3, kRN, c17, t6])) rfl))⟩, hS.F ht9⟩) hS.2.2 dX3_lookUp_21
  · skip
    have t6 : (okI p0 3 && okI p1 16) = true := bI_t c6
    obtain ⟨u0, u1⟩ : okI p0 3 = true ∧ okI p1 16 = true := by simpa using t6
    have e0 := hq u0
    obtain ⟨e0a, e0b⟩ := e0
    rw [show Value.int p0 = Value.int (nI q) from congrArg Value.int e0a] at hl
    have e1 := hj u1
    obtain ⟨e1a, e1b⟩ := e1
    rw [show Value.int p1 = Value.int (nI j) from congrArg Value.int e1a] at hl
    refine lv_iconst (v := 0) hx hb dX3_lookUp_9 (by decide) ?_
    refine lv_goto (tgt := 14) hx hb dX3_lookUp_10 (by decide) ?_
    refine gciT (X := ([] : va_W)) (va_runV (As := [.int 0]) (rest := []) ⟨hx, hb, hml, hown, hts⟩ (kX3_fails l G T x1 A I1 F 0 _) (cwV 1 hts gX3_lookUp_X3_fails rfl rfl rfl (by decide +kernel) ⟨Nat.le_of_ble_eq_true rfl, Nat.le_of_ble_eq_true rfl⟩) ⟨gblind, va_recv hK hP (ci := 3) (q0 := 0) rfl rfl, gpreT (X := ([] : va_W)) hE hK hP hD hS hA⟩ rfl rfl hl.1 rfl (lv_room (Nat.le_of_ble_eq_true rfl)) dX3_lookUp_14 ⟨Nat.le_of_ble_eq_true rfl, Nat.le_of_ble_eq_true rfl⟩) hP hD hS hA cM_fst (fun r9 H locs hw hP hD hS => ?_)
    have hP : va_P G vwCl (cM T x1 A (upd I1 17 0) F) H := hP
    have hD : va_D (va_A (cM T x1 A I1 F) s.heap.size) (cM T x1 A (upd I1 17 0) F) := hD
    subst hw
    refine gtop (y := 0) (by decide) ?_
    refine lv_if_eq (tgt := 22) hx hb dX3_lookUp_17 (by decide) (fun c17 => ?_) (fun c17 => ?_)
    · skip
      refine lv_bipush (v := 16) hx hb dX3_lookUp_22 (by decide) ?_
      refine lv_iload_n hx hb dX3_lookUp_24 rfl (lv_at hl 1 rfl) ?_
      refine lv_imul hx hb dX3_lookUp_25 ?_
      refine gtop (y := nI (16 * q)) (pk_mul 16 q) ?_
      refine lv_iload_n hx hb dX3_lookUp_26 rfl (lv_at hl 2 rfl) ?_
      refine lv_iadd hx hb dX3_lookUp_27 ?_
      refine gtop (y := nI ((16 * q) + j)) (nI_add (16 * q) j) ?_
      refine lv_istore_n (lv' := [(3, .int (nI ((16 * q) + j))), (0, .ref x1), (1, .int (nI q)), (2, .int (nI j))]) hx hb dX3_lookUp_28 rfl hl (by decide) rfl (fun ls hl => ?_)
      refine lv_aload_n hx hb dX3_lookUp_29 rfl (lv_at hl 1 rfl) ?_
      refine lv_iload_n hx hb dX3_lookUp_30 rfl (lv_at hl 0 rfl) ?_
      refine gciT (X := ([] : va_W)) (va_runV (As := [.int (nI ((16 * q) + j))]) (rest := []) ⟨hx, hb, hml, hown, hts⟩ (kX3_isYoung l G T x1 A (upd I1 17 0) F ((16 * q) + j) _ (by omega)) (cwV 1 hts gX3_lookUp_X3_isYoung rfl rfl rfl (by decide +kernel) ⟨Nat.le_of_ble_eq_true rfl, Nat.le_of_ble_eq_true rfl⟩) ⟨gblind, va_recv hK hP (ci := 3) (q0 := 0) rfl rfl, gpreT (X := ([] : va_W)) hE hK hP hD hS hA⟩ rfl rfl hl.1 rfl (lv_room (Nat.le_of_ble_eq_true rfl)) dX3_lookUp_31 ⟨Nat.le_of_ble_eq_true rfl, Nat.le_of_ble_eq_true rfl⟩) hP hD hS hA cM_fst (fun r9 H locs hw hP hD hS => ?_)
      have hP : va_P G vwCl (cM T x1 A (upd I1 17 0) F) H := hP
      have hD : va_D (va_A (cM T x1 A I1 F) s.heap.size) (cM T x1 A (upd I1 17 0) F) := hD
      subst hw
      refine lv_if_ne (tgt := 82) hx hb dX3_lookUp_34 (by decide) (fun c34 => ?_) (fun c34 => ?_)
      · skip
        have c35 : ¬ mYoung I1 F (16 * q + j) = 0 := c34
        refine lv_aload_n hx hb dX3_lookUp_82 rfl (lv_at hl 1 rfl) ?_
        refine va_get (D := G) (ci := 3) (v := .ref (A 15)) (C := RX3) (T := TX3) (N := 18) hx hb hts hiRX3 hown hK hP 0 rfl rfl 15 (by decide) (hts (.fieldLink RX3 46 "NameAuctionModel" "answer" "[I") (by decide +kernel)) (fun _ h9 => h9) rfl dX3_lookUp_83 ?_
        refine lv_iload_n hx hb dX3_lookUp_86 rfl (lv_at hl 0 rfl) ?_
        refine giald (j := ((16 * q) + j)) hx hb hK hP 13 0 rfl rfl (show (nI ((16 * q) + j) : Int32) = nI ((16 * q) + j) from rfl) (by omega) (by decide) dX3_lookUp_87 ?_
        exact W.iret (v := (F 15) ((16 * q) + j)) hx hb hr (fun t ht9 hW => ⟨⟨(F 15) ((16 * q) + j), (), rfl, (show ((F 15) ((16 * q) + j)) = (mLookF I1 F (16 * q + j) j 15 (16 * q + j)) from by first | (rw [mLookF, if_neg c35]; done) | (rw [mLookF, if_pos c35]; rfl)).trans (if_pos (show (kRN p0 p1) = 0 by simp [kRN, c17, c34, t6])).symm, gBi ht9 (gfin hP (mfinT (by simp [kRN, c17, c34, t6]) (rfl) (by first | (rw [mLookF, if_neg c35]; done) | (rw [mLookF, if_pos c35, if_pos c69]; rfl) | (rw [mLookF, if_pos c35, if_neg c69]; rfl))))⟩, hS.F ht9⟩) hS.2.2 dX3_lookUp_88
      · skip
        have c35 : mYoung I1 F (16 * q + j) = 0 := c34
        refine lv_aload_n hx hb dX3_lookUp_37 rfl (lv_at hl 1 rfl) ?_
        refine va_get (D := G) (ci := 3) (v := .ref (A 14)) (C := RX3) (T := TX3) (N := 18) hx hb hts hiRX3 hown hK hP 0 rfl rfl 14 (by decide) (hts (.fieldLink RX3 43 "NameAuctionModel" "taken" "[I") (by decide +kernel)) (fun _ h9 => h9) rfl dX3_lookUp_38 ?_
        refine lv_iload_n hx hb dX3_lookUp_41 rfl (lv_at hl 0 rfl) ?_
        refine lv_aload_n hx hb dX3_lookUp_42 rfl (lv_at hl 1 rfl) ?_
        refine va_get (D := G) (ci := 3) (v := .int ((upd I1 17 0) 0)) (C := RX3) (T := TX3) (N := 18) hx hb hts hiRX3 hown hK hP 0 rfl rfl 0 (by decide) (hts (.fieldLink RX3 71 "NameAuctionModel" "today" "I") (by decide +kernel)) (fun _ h9 => h9) rfl dX3_lookUp_43 ?_
        refine giast (j := ((16 * q) + j)) hx hb hK hP hD hS 12 0 rfl rfl (show (nI ((16 * q) + j) : Int32) = nI ((16 * q) + j) from rfl) (by omega) (by decide) dX3_lookUp_46 (fun H locs hP hD hS => ?_)
        have hP : va_P G vwCl (cM T x1 A (upd I1 17 0) (updA F 14 (upd (F 14) ((16 * q) + j) ((upd I1 17 0) 0)))) H := hP
        have hD : va_D (va_A (cM T x1 A I1 F) s.heap.size) (cM T x1 A (upd I1 17 0) (updA F 14 (upd (F 14) ((16 * q) + j) ((upd I1 17 0) 0)))) := hD
        refine lv_aload_n hx hb dX3_lookUp_47 rfl (lv_at hl 1 rfl) ?_
        refine va_get (D := G) (ci := 3) (v := .ref (A 15)) (C := RX3) (T := TX3) (N := 18) hx hb hts hiRX3 hown hK hP 0 rfl rfl 15 (by decide) (hts (.fieldLink RX3 46 "NameAuctionModel" "answer" "[I") (by decide +kernel)) (fun _ h9 => h9) rfl dX3_lookUp_48 ?_
        refine lv_iload_n hx hb dX3_lookUp_51 rfl (lv_at hl 0 rfl) ?_
        refine lv_aload_n hx hb dX3_lookUp_52 rfl (lv_at hl 1 rfl) ?_
        refine lv_iload_n hx hb dX3_lookUp_53 rfl (lv_at hl 3 rfl) ?_
        refine gciT (X := ([] : va_W)) (va_runV (As := [.int (nI j)]) (rest := [.int (nI ((16 * q) + j)), .ref (A 15)]) ⟨hx, hb, hml, hown, hts⟩ (kX3_answerOf l G T x1 A (upd I1 17 0) (updA F 14 (upd (F 14) ((16 * q) + j) ((upd I1 17 0) 0))) j _ (by omega)) (cwV 1 hts gX3_lookUp_X3_answerOf rfl rfl rfl (by decide +kernel) ⟨Nat.le_of_ble_eq_true rfl, Nat.le_of_ble_eq_true rfl⟩) ⟨gblind, va_recv hK hP (ci := 3) (q0 := 0) rfl rfl, gpreT (X := ([] : va_W)) hE hK hP hD hS hA⟩ rfl rfl hl.1 rfl (lv_room (Nat.le_of_ble_eq_true rfl)) dX3_lookUp_54 ⟨Nat.le_of_ble_eq_true rfl, Nat.le_of_ble_eq_true rfl⟩) hP hD hS hA cM_fst (fun r9 H locs hw hP hD hS => ?_)
        have hP : va_P G vwCl (cM T x1 A (upd I1 17 0) (updA F 14 (upd (F 14) ((16 * q) + j) ((upd I1 17 0) 0)))) H := hP
        have hD : va_D (va_A (cM T x1 A I1 F) s.heap.size) (cM T x1 A (upd I1 17 0) (updA F 14 (upd (F 14) ((16 * q) + j) ((upd I1 17 0) 0)))) := hD
        subst hw
        refine giast (j := ((16 * q) + j)) hx hb hK hP hD hS 13 0 rfl rfl (show (nI ((16 * q) + j) : Int32) = nI ((16 * q) + j) from rfl) (by omega) (by decide) dX3_lookUp_57 (fun H locs hP hD hS => ?_)
        have hP : va_P G vwCl (cM T x1 A (upd I1 17 0) (updA (updA F 14 (upd (F 14) ((16 * q) + j) ((upd I1 17 0) 0))) 15 (upd ((updA F 14 (upd (F 14) ((16 * q) + j) ((upd I1 17 0) 0))) 15) ((16 * q) + j) (mAns (updA F 14 (upd (F 14) ((16 * q) + j) ((upd I1 17 0) 0))) j)))) H := hP
        have hD : va_D (va_A (cM T x1 A I1 F) s.heap.size) (cM T x1 A (upd I1 17 0) (updA (updA F 14 (upd (F 14) ((16 * q) + j) ((upd I1 17 0) 0))) 15 (upd ((updA F 14 (upd (F 14) ((16 * q) + j) ((upd I1 17 0) 0))) 15) ((16 * q) + j) (mAns (updA F 14 (upd (F 14) ((16 * q) + j) ((upd I1 17 0) 0))) j)))) := hD
        refine lv_aload_n hx hb dX3_lookUp_58 rfl (lv_at hl 1 rfl) ?_
        refine va_get (D := G) (ci := 3) (v := .ref (A 16)) (C := RX3) (T := TX3) (N := 18) hx hb hts hiRX3 hown hK hP 0 rfl rfl 16 (by decide) (hts (.fieldLink RX3 49 "NameAuctionModel" "lives" "[I") (by decide +kernel)) (fun _ h9 => h9) rfl dX3_lookUp_59 ?_
        refine lv_iload_n hx hb dX3_lookUp_62 rfl (lv_at hl 0 rfl) ?_
        refine lv_aload_n hx hb dX3_lookUp_63 rfl (lv_at hl 1 rfl) ?_
        refine lv_iload_n hx hb dX3_lookUp_64 rfl (lv_at hl 3 rfl) ?_
        refine gciT (X := ([] : va_W)) (va_runV (As := [.int (nI j)]) (rest := [.int (nI ((16 * q) + j)), .ref (A 16)]) ⟨hx, hb, hml, hown, hts⟩ (kX3_hasRecord l G T x1 A (upd I1 17 0) (updA (updA F 14 (upd (F 14) ((16 * q) + j) ((upd I1 17 0) 0))) 15 (upd ((updA F 14 (upd (F 14) ((16 * q) + j) ((upd I1 17 0) 0))) 15) ((16 * q) + j) (mAns (updA F 14 (upd (F 14) ((16 * q) + j) ((upd I1 17 0) 0))) j))) j _ (by omega)) (cwV 1 hts gX3_lookUp_X3_hasRecord rfl rfl rfl (by decide +kernel) ⟨Nat.le_of_ble_eq_true rfl, Nat.le_of_ble_eq_true rfl⟩) ⟨gblind, va_recv hK hP (ci := 3) (q0 := 0) rfl rfl, gpreT (X := ([] : va_W)) hE hK hP hD hS hA⟩ rfl rfl hl.1 rfl (lv_room (Nat.le_of_ble_eq_true rfl)) dX3_lookUp_65 ⟨Nat.le_of_ble_eq_true rfl, Nat.le_of_ble_eq_true rfl⟩) hP hD hS hA cM_fst (fun r9 H locs hw hP hD hS => ?_)
        have hP : va_P G vwCl (cM T x1 A (upd I1 17 0) (updA (updA F 14 (upd (F 14) ((16 * q) + j) ((upd I1 17 0) 0))) 15 (upd ((updA F 14 (upd (F 14) ((16 * q) + j) ((upd I1 17 0) 0))) 15) ((16 * q) + j) (mAns (updA F 14 (upd (F 14) ((16 * q) + j) ((upd I1 17 0) 0))) j)))) H := hP
        have hD : va_D (va_A (cM T x1 A I1 F) s.heap.size) (cM T x1 A (upd I1 17 0) (updA (updA F 14 (upd (F 14) ((16 * q) + j) ((upd I1 17 0) 0))) 15 (upd ((updA F 14 (upd (F 14) ((16 * q) + j) ((upd I1 17 0) 0))) 15) ((16 * q) + j) (mAns (updA F 14 (upd (F 14) ((16 * q) + j) ((upd I1 17 0) 0))) j)))) := hD
        subst hw
        refine lv_if_eq (tgt := 80) hx hb dX3_lookUp_68 (by decide) (fun c68 => ?_) (fun c68 => ?_)
        · skip
          have c69 : mRec F j = 0 := c68
          refine lv_iconst (v := 5) hx hb dX3_lookUp_80 (by decide) ?_
          refine giast (j := ((16 * q) + j)) hx hb hK hP hD hS 14 0 rfl rfl (show (nI ((16 * q) + j) : Int32) = nI ((16 * q) + j) from rfl) (by omega) (by decide) dX3_lookUp_81 (fun H locs hP hD hS => ?_)
          have hP : va_P G vwCl (cM T x1 A (upd I1 17 0) (updA (updA (updA F 14 (upd (F 14) ((16 * q) + j) ((upd I1 17 0) 0))) 15 (upd ((updA F 14 (upd (F 14) ((16 * q) + j) ((upd I1 17 0) 0))) 15) ((16 * q) + j) (mAns (updA F 14 (upd (F 14) ((16 * q) + j) ((upd I1 17 0) 0))) j))) 16 (upd ((updA (updA F 14 (upd (F 14) ((16 * q) + j) ((upd I1 17 0) 0))) 15 (upd ((updA F 14 (upd (F 14) ((16 * q) + j) ((upd I1 17 0) 0))) 15) ((16 * q) + j) (mAns (updA F 14 (upd (F 14) ((16 * q) + j) ((upd I1 17 0) 0))) j))) 16) ((16 * q) + j) 5))) H := hP
          have hD : va_D (va_A (cM T x1 A I1 F) s.heap.size) (cM T x1 A (upd I1 17 0) (updA (updA (updA F 14 (upd (F 14) ((16 * q) + j) ((upd I1 17 0) 0))) 15 (upd ((updA F 14 (upd (F 14) ((16 * q) + j) ((upd I1 17 0) 0))) 15) ((16 * q) + j) (mAns (updA F 14 (upd (F 14) ((16 * q) + j) ((upd I1 17 0) 0))) j))) 16 (upd ((updA (updA F 14 (upd (F 14) ((16 * q) + j) ((upd I1 17 0) 0))) 15 (upd ((updA F 14 (upd (F 14) ((16 * q) + j) ((upd I1 17 0) 0))) 15) ((16 * q) + j) (mAns (updA F 14 (upd (F 14) ((16 * q) + j) ((upd I1 17 0) 0))) j))) 16) ((16 * q) + j) 5))) := hD
          refine lv_aload_n hx hb dX3_lookUp_82 rfl (lv_at hl 1 rfl) ?_
          refine va_get (D := G) (ci := 3) (v := .ref (A 15)) (C := RX3) (T := TX3) (N := 18) hx hb hts hiRX3 hown hK hP 0 rfl rfl 15 (by decide) (hts (.fieldLink RX3 46 "NameAuctionModel" "answer" "[I") (by decide +kernel)) (fun _ h9 => h9) rfl dX3_lookUp_83 ?_
          refine lv_iload_n hx hb dX3_lookUp_86 rfl (lv_at hl 0 rfl) ?_
          refine giald (j := ((16 * q) + j)) hx hb hK hP 13 0 rfl rfl (show (nI ((16 * q) + j) : Int32) = nI ((16 * q) + j) from rfl) (by omega) (by decide) dX3_lookUp_87 ?_
          exact W.iret (v := ((updA (updA F 14 (upd (F 14) ((16 * q) + j) ((upd I1 17 0) 0))) 15 (upd ((updA F 14 (upd (F 14) ((16 * q) + j) ((upd I1 17 0) 0))) 15) ((16 * q) + j) (mAns (updA F 14 (upd (F 14) ((16 * q) + j) ((upd I1 17 0) 0))) j))) 15) ((16 * q) + j)) hx hb hr (fun t ht9 hW => ⟨⟨((updA (updA F 14 (upd (F 14) ((16 * q) + j) ((upd I1 17 0) 0))) 15 (upd ((updA F 14 (upd (F 14) ((16 * q) + j) ((upd I1 17 0) 0))) 15) ((16 * q) + j) (mAns (updA F 14 (upd (F 14) ((16 * q) + j) ((upd I1 17 0) 0))) j))) 15) ((16 * q) + j), (), rfl, (show (((updA (updA F 14 (upd (F 14) ((16 * q) + j) ((upd I1 17 0) 0))) 15 (upd ((updA F 14 (upd (F 14) ((16 * q) + j) ((upd I1 17 0) 0))) 15) ((16 * q) + j) (mAns (updA F 14 (upd (F 14) ((16 * q) + j) ((upd I1 17 0) 0))) j))) 15) ((16 * q) + j)) = (mLookF I1 F (16 * q + j) j 15 (16 * q + j)) from by first | (rw [mLookF, if_neg c35]; done) | (rw [mLookF, if_pos c35]; rfl)).trans (if_pos (show (kRN p0 p1) = 0 by simp [kRN, c17, c34, c68, t6])).symm, gBi ht9 (gfin hP (mfinT (by simp [kRN, c17, c34, c68, t6]) (rfl) (by first | (rw [mLookF, if_neg c35]; done) | (rw [mLookF, if_pos c35, if_pos c69]; rfl) | (rw [mLookF, if_pos c35, if_neg c69]; rfl))))⟩, hS.F ht9⟩) hS.2.2 dX3_lookUp_88
        · skip
          have c69 : ¬ mRec F j = 0 := c68
          refine lv_aload_n hx hb dX3_lookUp_71 rfl (lv_at hl 1 rfl) ?_
          refine va_get (D := G) (ci := 3) (v := .ref (A 7)) (C := RX3) (T := TX3) (N := 18) hx hb hts hiRX3 hown hK hP 0 rfl rfl 7 (by decide) (hts (.fieldLink RX3 25 "NameAuctionModel" "lifetime" "[I") (by decide +kernel)) (fun _ h9 => h9) rfl dX3_lookUp_72 ?_
          refine lv_iload_n hx hb dX3_lookUp_75 rfl (lv_at hl 3 rfl) ?_
          refine giald (j := j) hx hb hK hP 6 0 rfl rfl (show (nI j : Int32) = nI j from rfl) (by omega) (by decide) dX3_lookUp_76 ?_
          refine lv_goto (tgt := 81) hx hb dX3_lookUp_77 (by decide) ?_
          refine giast (j := ((16 * q) + j)) hx hb hK hP hD hS 14 0 rfl rfl (show (nI ((16 * q) + j) : Int32) = nI ((16 * q) + j) from rfl) (by omega) (by decide) dX3_lookUp_81 (fun H locs hP hD hS => ?_)
          have hP : va_P G vwCl (cM T x1 A (upd I1 17 0) (updA (updA (updA F 14 (upd (F 14) ((16 * q) + j) ((upd I1 17 0) 0))) 15 (upd ((updA F 14 (upd (F 14) ((16 * q) + j) ((upd I1 17 0) 0))) 15) ((16 * q) + j) (mAns (updA F 14 (upd (F 14) ((16 * q) + j) ((upd I1 17 0) 0))) j))) 16 (upd ((updA (updA F 14 (upd (F 14) ((16 * q) + j) ((upd I1 17 0) 0))) 15 (upd ((updA F 14 (upd (F 14) ((16 * q) + j) ((upd I1 17 0) 0))) 15) ((16 * q) + j) (mAns (updA F 14 (upd (F 14) ((16 * q) + j) ((upd I1 17 0) 0))) j))) 16) ((16 * q) + j) (((updA (updA F 14 (upd (F 14) ((16 * q) + j) ((upd I1 17 0) 0))) 15 (upd ((updA F 14 (upd (F 14) ((16 * q) + j) ((upd I1 17 0) 0))) 15) ((16 * q) + j) (mAns (updA F 14 (upd (F 14) ((16 * q) + j) ((upd I1 17 0) 0))) j))) 7) j)))) H := hP
          have hD : va_D (va_A (cM T x1 A I1 F) s.heap.size) (cM T x1 A (upd I1 17 0) (updA (updA (updA F 14 (upd (F 14) ((16 * q) + j) ((upd I1 17 0) 0))) 15 (upd ((updA F 14 (upd (F 14) ((16 * q) + j) ((upd I1 17 0) 0))) 15) ((16 * q) + j) (mAns (updA F 14 (upd (F 14) ((16 * q) + j) ((upd I1 17 0) 0))) j))) 16 (upd ((updA (updA F 14 (upd (F 14) ((16 * q) + j) ((upd I1 17 0) 0))) 15 (upd ((updA F 14 (upd (F 14) ((16 * q) + j) ((upd I1 17 0) 0))) 15) ((16 * q) + j) (mAns (updA F 14 (upd (F 14) ((16 * q) + j) ((upd I1 17 0) 0))) j))) 16) ((16 * q) + j) (((updA (updA F 14 (upd (F 14) ((16 * q) + j) ((upd I1 17 0) 0))) 15 (upd ((updA F 14 (upd (F 14) ((16 * q) + j) ((upd I1 17 0) 0))) 15) ((16 * q) + j) (mAns (updA F 14 (upd (F 14) ((16 * q) + j) ((upd I1 17 0) 0))) j))) 7) j)))) := hD
          refine lv_aload_n hx hb dX3_lookUp_82 rfl (lv_at hl 1 rfl) ?_
          refine va_get (D := G) (ci := 3) (v := .ref (A 15)) (C := RX3) (T := TX3) (N := 18) hx hb hts hiRX3 hown hK hP 0 rfl rfl 15 (by decide) (hts (.fieldLink RX3 46 "NameAuctionModel" "answer" "[I") (by decide +kernel)) (fun _ h9 => h9) rfl dX3_lookUp_83 ?_
          refine lv_iload_n hx hb dX3_lookUp_86 rfl (lv_at hl 0 rfl) ?_
          refine giald (j := ((16 * q) + j)) hx hb hK hP 13 0 rfl rfl (show (nI ((16 * q) + j) : Int32) = nI ((16 * q) + j) from rfl) (by omega) (by decide) dX3_lookUp_87 ?_
          exact W.iret (v := ((updA (updA F 14 (upd (F 14) ((16 * q) + j) ((upd I1 17 0) 0))) 15 (upd ((updA F 14 (upd (F 14) ((16 * q) + j) ((upd I1 17 0) 0))) 15) ((16 * q) + j) (mAns (updA F 14 (upd (F 14) ((16 * q) + j) ((upd I1 17 0) 0))) j))) 15) ((16 * q) + j)) hx hb hr (fun t ht9 hW => ⟨⟨((updA (updA F 14 (upd (F 14) ((16 * q) + j) ((upd I1 17 0) 0))) 15 (upd ((updA F 14 (upd (F 14) ((16 * q) + j) ((upd I1 17 0) 0))) 15) ((16 * q) + j) (mAns (updA F 14 (upd (F 14) ((16 * q) + j) ((upd I1 17 0) 0))) j))) 15) ((16 * q) + j), (), rfl, (show (((updA (updA F 14 (upd (F 14) ((16 * q) + j) ((upd I1 17 0) 0))) 15 (upd ((updA F 14 (upd (F 14) ((16 * q) + j) ((upd I1 17 0) 0))) 15) ((16 * q) + j) (mAns (updA F 14 (upd (F 14) ((16 * q) + j) ((upd I1 17 0) 0))) j))) 15) ((16 * q) + j)) = (mLookF I1 F (16 * q + j) j 15 (16 * q + j)) from by first | (rw [mLookF, if_neg c35]; done) | (rw [mLookF, if_pos c35]; rfl)).trans (if_pos (show (kRN p0 p1) = 0 by simp [kRN, c17, c34, c68, t6])).symm, gBi ht9 (gfin hP (mfinT (by simp [kRN, c17, c34, c68, t6]) (rfl) (by first | (rw [mLookF, if_neg c35]; done) | (rw [mLookF, if_pos c35, if_pos c69]; rfl) | (rw [mLookF, if_pos c35, if_neg c69]; rfl))))⟩, hS.F ht9⟩) hS.2.2 dX3_lookUp_88
    · exact absurd c17 (by decide)
abbrev PX3_flush (G : va_G) (T : Nat → ClassId) (x1 : Nat) (A : Nat → Nat) (I1 : Nat → Int32) (F : Nat → Nat → Int32) (q : Nat) (p0 : Int32) (sz : Nat) : Array Value → State → Prop := gPc G T [.ref x1, .int p0] (cM T x1 A I1 F) sz
abbrev QX3_flush (G : va_G) (T : Nat → ClassId) (x1 : Nat) (A : Nat → Nat) (I1 : Nat → Int32) (F : Nat → Nat → Int32) (q : Nat) (p0 : Int32) (sz : Nat) : Array Value → State → Outcome → State → Prop := va_Qi (fun (r : Int32) (_ : Unit) => r = if (kRes p0) = 0 then mKept (F 14) q 16 else 0) (gB G (cM T x1 A (if (kRes p0) = 0 then (upd I1 17 0) else upd I1 17 (w3 (kRes p0))) (if (kRes p0) = 0 then (updA F 14 (mFls (F 14) q 16)) else F))) (va_A (cM T x1 A I1 F) sz)
set_option maxHeartbeats 4000000 in
set_option maxRecDepth 100000 in
theorem kX3_flush (l : Launch) (G : va_G) (T : Nat → ClassId) (x1 : Nat) (A : Nat → Nat) (I1 : Nat → Int32) (F : Nat → Nat → Int32) (q : Nat) (p0 : Int32) (sz : Nat) (hq : okI p0 3 = true → p0 = nI q ∧ q < 3) : Met l yX3_flush wsX3_flush ({ frames := 1, cells := 0, slots := 0, locals := 22 } : Room) (PX3_flush G T x1 A I1 F q p0 sz) (QX3_flush G T x1 A I1 F q p0 sz) 0 0 (va_A (cM T x1 A I1 F) sz) := by
  refine Met.ofW (cc := cX3_flush) (maxL := 4) (ret := (some .int)) (by decide) rfl ?_
  intro p e s m args below meth c s₁ B hml hv
  obtain ⟨rfl, hsz, hP, hK, hD0, hE⟩ := hv
  have hx := B.exec
  have hb := B.bytes
  have hr := B.returns
  have hts := atoms_spec (ws := wsX3_flush) B.pre
  have hown : s.vm.findClass RX3 = some m.cls := findClass_of_methodNamed B.named
  have hlocks := B.notSynchronized
  subst hsz
  have hD := hD0.self (sz := s.heap.size)
  have hA : ∀ q : Nat, s.heap.size ≤ q → (va_A (cM T x1 A I1 F) s.heap.size) q := fun q h => Or.inr h
  have hS : va_S (va_A (cM T x1 A I1 F) s.heap.size) s.heap s.heap [] := va_S.rf
  have hiRX3 : ∀ w ∈ u_ws RX3 TX3 18, w ∈ wsX3_flush := by decide +kernel
  have hl := lv_entry ([.ref x1, .int p0]) (n := 4) (Nat.le_of_ble_eq_true rfl)
  rw [lg_entry_eq]
  generalize (lg_sl ([.ref x1, .int p0]) ++ List.replicate (4 - (lg_sl ([.ref x1, .int p0])).length) Slot.unset).toArray = ls at hl ⊢
  have hl : lv_has ls 4 [(0, .ref x1), (1, .int p0)] := hl
  have hP : va_P G vwCl (cM T x1 A I1 F) s.heap := hP
  refine lv_aload_n hx hb dX3_flush_0 rfl (lv_at hl 0 rfl) ?_
  refine lv_iload_n hx hb dX3_flush_1 rfl (lv_at hl 1 rfl) ?_
  refine lv_iconst (v := 0) hx hb dX3_flush_2 (by decide) ?_
  refine lv_iconst (v := 2) hx hb dX3_flush_3 (by decide) ?_
  refine gci (va_runS (As := [.int p0, .int 0, .int 2]) (rest := [.ref x1]) ⟨hx, hb, hml, hown, hts⟩ (kX3_isIn l G T p0 0 2 _) (va_cwS 3 hts gX3_flush_X3_isIn rfl rfl rfl (by decide +kernel) ⟨Nat.le_of_ble_eq_true rfl, Nat.le_of_ble_eq_true rfl⟩) ⟨gblind, gpre hE hK hP hD hS hA [] rfl rfl⟩ rfl rfl hl.1 rfl (lv_room (Nat.le_of_ble_eq_true rfl)) dX3_flush_4 ⟨Nat.le_of_ble_eq_true rfl, Nat.le_of_ble_eq_true rfl⟩) hP hD hS hA [] rfl rfl (fun r9 H locs hw hP hD hS => ?_)
  have hP : va_P G vwCl (cM T x1 A I1 F) H := hP
  have hD : va_D (va_A (cM T x1 A I1 F) s.heap.size) (cM T x1 A I1 F) := hD
  subst hw
  refine lv_if_eq (tgt := 14) hx hb dX3_flush_7 (by decide) (fun c7 => ?_) (fun c7 => ?_)
  · skip
    have t7 : (okR p0 0 2) = false := bI_f c7
    rw [okR_2] at t7
    refine lv_iconst (v := 1) hx hb dX3_flush_14 (by decide) ?_
    refine gciT (X := ([] : va_W)) (va_runV (As := [.int 1]) (rest := []) ⟨hx, hb, hml, hown, hts⟩ (kX3_fails l G T x1 A I1 F 1 _) (cwV 1 hts gX3_flush_X3_fails rfl rfl rfl (by decide +kernel) ⟨Nat.le_of_ble_eq_true rfl, Nat.le_of_ble_eq_true rfl⟩) ⟨gblind, va_recv hK hP (ci := 3) (q0 := 0) rfl rfl, gpreT (X := ([] : va_W)) hE hK hP hD hS hA⟩ rfl rfl hl.1 rfl (lv_room (Nat.le_of_ble_eq_true rfl)) dX3_flush_15 ⟨Nat.le_of_ble_eq_true rfl, Nat.le_of_ble_eq_true rfl⟩) hP hD hS hA cM_fst (fun r9 H locs hw hP hD hS => ?_)
    have hP : va_P G vwCl (cM T x1 A (upd I1 17 1) F) H := hP
    have hD : va_D (va_A (cM T x1 A I1 F) s.heap.size) (cM T x1 A (upd I1 17 1) F) := hD
    subst hw
    refine gtop (y := 1) (by decide) ?_
    refine lv_if_eq (tgt := 23) hx hb dX3_flush_18 (by decide) (fun c18 => ?_) (fun c18 => ?_)
    · exact absurd c18 (by decide)
    · skip
      refine lv_iconst (v := 0) hx hb dX3_flush_21 (by decide) ?_
      exact W.iret (v := 0) hx hb hr (fun t ht9 hW => ⟨⟨0, (), rfl, (if_neg (by simp [kRes, c18, t7])).symm, gBi ht9 (gfin hP (mfinF (by simp [kRes, c18, t7]) (congrArg (upd I1 17) (by simp [w3, kRes, c18, t7])) rfl))⟩, hS.F ht9⟩) hS.2.2 dX3_flush_22
  · skip
    have t7 : (okR p0 0 2) = true := bI_t c7
    rw [okR_2] at t7
    have e0 := hq t7
    obtain ⟨e0a, e0b⟩ := e0
    rw [show Value.int p0 = Value.int (nI q) from congrArg Value.int e0a] at hl
    refine lv_iconst (v := 0) hx hb dX3_flush_10 (by decide) ?_
    refine lv_goto (tgt := 15) hx hb dX3_flush_11 (by decide) ?_
    refine gciT (X := ([] : va_W)) (va_runV (As := [.int 0]) (rest := []) ⟨hx, hb, hml, hown, hts⟩ (kX3_fails l G T x1 A I1 F 0 _) (cwV 1 hts gX3_flush_X3_fails rfl rfl rfl (by decide +kernel) ⟨Nat.le_of_ble_eq_true rfl, Nat.le_of_ble_eq_true rfl⟩) ⟨gblind, va_recv hK hP (ci := 3) (q0 := 0) rfl rfl, gpreT (X := ([] : va_W)) hE hK hP hD hS hA⟩ rfl rfl hl.1 rfl (lv_room (Nat.le_of_ble_eq_true rfl)) dX3_flush_15 ⟨Nat.le_of_ble_eq_true rfl, Nat.le_of_ble_eq_true rfl⟩) hP hD hS hA cM_fst (fun r9 H locs hw hP hD hS => ?_)
    have hP : va_P G vwCl (cM T x1 A (upd I1 17 0) F) H := hP
    have hD : va_D (va_A (cM T x1 A I1 F) s.heap.size) (cM T x1 A (upd I1 17 0) F) := hD
    subst hw
    refine gtop (y := 0) (by decide) ?_
    refine lv_if_eq (tgt := 23) hx hb dX3_flush_18 (by decide) (fun c18 => ?_) (fun c18 => ?_)
    · skip
      refine lv_iconst (v := 0) hx hb dX3_flush_23 (by decide) ?_
      refine lv_istore_n (lv' := [(2, .int 0), (0, .ref x1), (1, .int (nI q))]) hx hb dX3_flush_24 rfl hl (by decide) rfl (fun ls hl => ?_)
      refine lv_bipush (v := 16) hx hb dX3_flush_25 (by decide) ?_
      refine lv_iload_n hx hb dX3_flush_27 rfl (lv_at hl 2 rfl) ?_
      refine lv_imul hx hb dX3_flush_28 ?_
      refine gtop (y := nI (16 * q)) (pk_mul 16 q) ?_
      refine lv_istore_n (lv' := [(3, .int (nI (16 * q))), (2, .int 0), (0, .ref x1), (1, .int (nI q))]) hx hb dX3_flush_29 rfl hl (by decide) rfl (fun ls hl => ?_)
      have J30 : ∀ n9 : Nat, ∀ (i : Nat) (H : Heap) (locs : List Loc) (ls : Array Slot), (i ≤ 16) → (17 ≤ i + n9) → va_P G vwCl (cM T x1 A (upd I1 17 0) (updA F 14 (mFls (F 14) q i))) H → va_D (va_A (cM T x1 A I1 F) s.heap.size) (cM T x1 A (upd I1 17 0) (updA F 14 (mFls (F 14) q i))) → va_S (va_A (cM T x1 A I1 F) s.heap.size) s.heap H locs → lv_has ls 4 [(0, .ref x1), (1, .int (nI q)), (2, .int (mKept (F 14) q i)), (3, .int (nI (16 * q + i)))] → W p l e (headSpec wsX3_flush ({ frames := 1, cells := 0, slots := 0, locals := 22 } : Room)).room s m ([.ref x1, .int p0] : List Value).toArray below meth c H locs 0 0 (MQ below (QX3_flush G T x1 A I1 F q p0 s.heap.size) ([.ref x1, .int p0] : List Value).toArray s 0 0 (va_A (cM T x1 A I1 F) s.heap.size)) (F0 m 30 ls []) := by
        intro n9
        induction n9 with
        | zero => intro i H locs ls hi hm hP hD hS hl; exact absurd (hm) (by omega)
        | succ n9 ih30 =>
          intro i H locs ls hi hm hP hD hS hl
          refine lv_iload_n hx hb dX3_flush_30 rfl (lv_at hl 3 rfl) ?_
          refine lv_bipush (v := 16) hx hb dX3_flush_31 (by decide) ?_
          refine lv_iload_n hx hb dX3_flush_33 rfl (lv_at hl 1 rfl) ?_
          refine lv_imul hx hb dX3_flush_34 ?_
          refine gtop (y := nI (16 * q)) (pk_mul 16 q) ?_
          refine lv_bipush (v := 16) hx hb dX3_flush_35 (by decide) ?_
          refine lv_iadd hx hb dX3_flush_37 ?_
          refine gtop (y := nI ((16 * q) + 16)) (nI_add (16 * q) 16) ?_
          refine lv_icmp_ge (tgt := 72) hx hb dX3_flush_38 (by decide) (fun c38 => ?_) (fun c38 => ?_)
          · skip
            have hge : i = 16 := by
              rcases Nat.lt_or_ge i 16 with q8 | q8
              · exact absurd c38 (nI_ge (show 16 * q + i < 16 * q + 16 by omega) (by omega))
              · omega
            refine lv_iload_n hx hb dX3_flush_72 rfl (lv_at hl 2 rfl) ?_
            exact W.iret (v := mKept (F 14) q i) hx hb hr (fun t ht9 hW => ⟨⟨mKept (F 14) q i, (), rfl, by simp [kRes, t7, hge], gBi ht9 (gfin hP (mfinT (by simp [kRes, t7]) rfl (by rw [hge])))⟩, hS.F ht9⟩) hS.2.2 dX3_flush_73
          · skip
            have hlt : i < 16 := by
              rcases Nat.lt_or_ge i 16 with q8 | q8
              · exact q8
              · exact absurd (nI_le (show 16 * q + 16 ≤ 16 * q + i by omega) (by omega)) c38
            have ek : updA F 14 (mFls (F 14) q i) 14 (16 * q + i) = F 14 (16 * q + i) := by simp [updA, mFls]
            refine lv_iload_n hx hb dX3_flush_41 rfl (lv_at hl 2 rfl) ?_
            refine lv_aload_n hx hb dX3_flush_42 rfl (lv_at hl 0 rfl) ?_
            refine va_get (D := G) (ci := 3) (v := .ref (A 14)) (C := RX3) (T := TX3) (N := 18) hx hb hts hiRX3 hown hK hP 0 rfl rfl 14 (by decide) (hts (.fieldLink RX3 43 "NameAuctionModel" "taken" "[I") (by decide +kernel)) (fun _ h9 => h9) rfl dX3_flush_43 ?_
            refine lv_iload_n hx hb dX3_flush_46 rfl (lv_at hl 3 rfl) ?_
            refine giald (j := (16 * q + i)) hx hb hK hP 12 0 rfl rfl (show (nI (16 * q + i) : Int32) = nI (16 * q + i) from rfl) (by omega) (by decide) dX3_flush_47 ?_
            refine lv_iconst (v := (-1)) hx hb dX3_flush_48 (by decide) ?_
            refine lv_icmp_ne (tgt := 56) hx hb dX3_flush_49 (by decide) (fun c49 => ?_) (fun c49 => ?_)
            · skip
              refine lv_iconst (v := 1) hx hb dX3_flush_56 (by decide) ?_
              refine lv_iadd hx hb dX3_flush_57 ?_
              refine gtop (y := mKept (F 14) q (i + 1)) (by rw [ek] at c49; simp [mKept, c49]) ?_
              refine lv_istore_n (lv' := [(2, .int (mKept (F 14) q (i + 1))), (0, .ref x1), (1, .int (nI q)), (3, .int (nI (16 * q + i)))]) hx hb dX3_flush_58 rfl hl (by decide) rfl (fun ls hl => ?_)
              refine lv_aload_n hx hb dX3_flush_59 rfl (lv_at hl 1 rfl) ?_
              refine va_get (D := G) (ci := 3) (v := .ref (A 14)) (C := RX3) (T := TX3) (N := 18) hx hb hts hiRX3 hown hK hP 0 rfl rfl 14 (by decide) (hts (.fieldLink RX3 43 "NameAuctionModel" "taken" "[I") (by decide +kernel)) (fun _ h9 => h9) rfl dX3_flush_60 ?_
              refine lv_iload_n hx hb dX3_flush_63 rfl (lv_at hl 3 rfl) ?_
              refine lv_iconst (v := (-1)) hx hb dX3_flush_64 (by decide) ?_
              refine giast (j := (16 * q + i)) hx hb hK hP hD hS 12 0 rfl rfl (show (nI (16 * q + i) : Int32) = nI (16 * q + i) from rfl) (by omega) (by decide) dX3_flush_65 (fun H locs hP hD hS => ?_)
              have hP : va_P G vwCl (cM T x1 A (upd I1 17 0) (updA F 14 (upd (mFls (F 14) q i) (16 * q + i) (-1)))) H := hP
              have hD : va_D (va_A (cM T x1 A I1 F) s.heap.size) (cM T x1 A (upd I1 17 0) (updA F 14 (upd (mFls (F 14) q i) (16 * q + i) (-1)))) := hD
              refine lv_iinc (v := nI ((16 * q + i) + 1)) (lv' := [(3, .int (nI ((16 * q + i) + 1))), (2, .int (mKept (F 14) q (i + 1))), (0, .ref x1), (1, .int (nI q))]) hx hb dX3_flush_66 hl (k := 3) rfl (by first | rfl | exact (nI_add (16 * q + i) 1)) (by decide) rfl (fun ls hl => ?_)
              refine lv_goto (tgt := 30) hx hb dX3_flush_69 (by decide) ?_
              exact ih30 (i + 1) _ _ _ (by omega) (by omega) (gfin hP (by rw [mFls_up])) (gfinD hD (by rw [mFls_up])) hS (lv_sub hl [2, 3, 1, 0] rfl)
            · skip
              refine lv_iconst (v := 0) hx hb dX3_flush_52 (by decide) ?_
              refine lv_goto (tgt := 57) hx hb dX3_flush_53 (by decide) ?_
              refine lv_iadd hx hb dX3_flush_57 ?_
              refine gtop (y := mKept (F 14) q (i + 1)) (by rw [ek] at c49; simp [mKept, c49]) ?_
              refine lv_istore_n (lv' := [(2, .int (mKept (F 14) q (i + 1))), (0, .ref x1), (1, .int (nI q)), (3, .int (nI (16 * q + i)))]) hx hb dX3_flush_58 rfl hl (by decide) rfl (fun ls hl => ?_)
              refine lv_aload_n hx hb dX3_flush_59 rfl (lv_at hl 1 rfl) ?_
              refine va_get (D := G) (ci := 3) (v := .ref (A 14)) (C := RX3) (T := TX3) (N := 18) hx hb hts hiRX3 hown hK hP 0 rfl rfl 14 (by decide) (hts (.fieldLink RX3 43 "NameAuctionModel" "taken" "[I") (by decide +kernel)) (fun _ h9 => h9) rfl dX3_flush_60 ?_
              refine lv_iload_n hx hb dX3_flush_63 rfl (lv_at hl 3 rfl) ?_
              refine lv_iconst (v := (-1)) hx hb dX3_flush_64 (by decide) ?_
              refine giast (j := (16 * q + i)) hx hb hK hP hD hS 12 0 rfl rfl (show (nI (16 * q + i) : Int32) = nI (16 * q + i) from rfl) (by omega) (by decide) dX3_flush_65 (fun H locs hP hD hS => ?_)
              have hP : va_P G vwCl (cM T x1 A (upd I1 17 0) (updA F 14 (upd (mFls (F 14) q i) (16 * q + i) (-1)))) H := hP
              have hD : va_D (va_A (cM T x1 A I1 F) s.heap.size) (cM T x1 A (upd I1 17 0) (updA F 14 (upd (mFls (F 14) q i) (16 * q + i) (-1)))) := hD
              refine lv_iinc (v := nI ((16 * q + i) + 1)) (lv' := [(3, .int (nI ((16 * q + i) + 1))), (2, .int (mKept (F 14) q (i + 1))), (0, .ref x1), (1, .int (nI q))]) hx hb dX3_flush_66 hl (k := 3) rfl (by first | rfl | exact (nI_add (16 * q + i) 1)) (by decide) rfl (fun ls hl => ?_)
              refine lv_goto (tgt := 30) hx hb dX3_flush_69 (by decide) ?_
              exact ih30 (i + 1) _ _ _ (by omega) (by omega) (gfin hP (by rw [mFls_up])) (gfinD hD (by rw [mFls_up])) hS (lv_sub hl [2, 3, 1, 0] rfl)
      exact J30 17 0 _ _ _ (by omega) (by omega) (gfin hP (by rw [mFls_0, updA_self])) (gfinD hD (by rw [mFls_0, updA_self])) hS (lv_sub hl [2, 3, 1, 0] rfl)
    · exact absurd c18 (by decide)
def mStale (I1 : Nat → Int32) (F : Nat → Nat → Int32) (q j : Nat) : Int32 := if mYoung I1 F (16 * q + j) = 0 then 0 else if F 15 (16 * q + j) = mAns F j then 0 else 1
