/-! SIGN: the reference -/
def mLet (a p : Int32) : Int32 :=
  if a = 0 then (if p = 0 then 102 else if p = 1 then 114 else if 4 ≤ p then 32 else 101)
  else if a = 1 then (if p = 0 then 97 else if p = 1 then 117 else if p = 2 then 99 else if p = 3 then 116 else if p = 4 then 105 else if p = 5 then 111 else if p = 6 then 110 else 32)
  else if a = 2 then (if p = 0 then 108 else if p = 1 then 101 else if p = 4 then 101 else if p = 2 then 97 else if p = 3 then 115 else if p = 5 then 100 else 32)
  else if a = 3 then (if p = 0 then 103 else if p = 1 then 114 else if p = 2 then 97 else if p = 3 then 99 else if p = 4 then 101 else 32)
  else if a = 4 then (if p = 0 then 114 else if p = 1 then 101 else if p = 3 then 101 else if p = 2 then 100 else if p = 4 then 109 else if p = 5 then 112 else if p = 6 then 116 else if p = 7 then 105 else if p = 8 then 111 else if p = 9 then 110 else 32)
  else (if p = 0 then 102 else if p = 1 then 114 else if p = 2 then 111 else if p = 3 then 122 else if p = 4 then 101 else if p = 5 then 110 else 32)
theorem mLet_all : ∀ s, s < 6 → ∀ k, k < 11 → (k < wLen (wIx (nI s)) → mLet (nI s) (nI k) = chW (wIx (nI s)) k ∧ ¬ mLet (nI s) (nI k) = 32) ∧ (k = wLen (wIx (nI s)) → mLet (nI s) (nI k) = 32) := by decide +kernel
theorem mLet_in {a : Int32} (hs : ∃ s : Nat, s < 6 ∧ a = nI s) {k : Nat} (hk : k < wLen (wIx a)) : mLet a (nI k) = chW (wIx a) k ∧ ¬ mLet a (nI k) = 32 := by
  obtain ⟨s, h1, rfl⟩ := hs
  exact (mLet_all s h1 k (by have := wLen_10 (wIx (nI s)) (wIx_lt _); omega)).1 hk
theorem mLet_out {a : Int32} (hs : ∃ s : Nat, s < 6 ∧ a = nI s) : mLet a (nI (wLen (wIx a))) = 32 := by
  obtain ⟨s, h1, rfl⟩ := hs
  exact (mLet_all s h1 (wLen (wIx (nI s))) (by have := wLen_10 (wIx (nI s)) (wIx_lt _); omega)).2 rfl
theorem iteN {c : Prop} {d : Decidable c} {a b : Int32} (ha : narrow .char (.int a) = .int a) (hb : narrow .char (.int b) = .int b) : narrow .char (.int (@ite Int32 c d a b)) = .int (@ite Int32 c d a b) := by
  cases d with
  | isTrue h => exact ha
  | isFalse h => exact hb
theorem mLet_nar (a p : Int32) : narrow .char (.int (mLet a p)) = .int (mLet a p) := by
  unfold mLet
  repeat' (first | rfl | refine iteN ?_ ?_)
def mSgE (F : Nat → Nat → Int32) (j : Nat) (p : Int32) : Int32 := if F 3 j < 2 then 32 else if F 4 j = -1 then 32 else if p = nI (wLen (wIx (F 3 j))) then 58 else if p = nI (wLen (wIx (F 3 j)) + 1) then nI ((48 + F 4 j).toBitVec.toNat % 65536) else 32
def mSgn (F : Nat → Nat → Int32) (j : Nat) (p : Int32) : Int32 := if p < 0 then mSgE F j p else if nI (wLen (wIx (F 3 j))) ≤ p then mSgE F j p else mLet (F 3 j) p
theorem mSgE_nar (F : Nat → Nat → Int32) (j : Nat) (p : Int32) : narrow .char (.int (mSgE F j p)) = .int (mSgE F j p) := by
  unfold mSgE
  exact iteN rfl (iteN rfl (iteN rfl (iteN (pk_charN (Nat.mod_lt _ (by decide))).1 rfl)))
theorem mSgn_nar (F : Nat → Nat → Int32) (j : Nat) (p : Int32) : narrow .char (.int (mSgn F j p)) = .int (mSgn F j p) := by
  unfold mSgn
  exact iteN (mSgE_nar F j p) (iteN (mSgE_nar F j p) (mLet_nar _ _))
def cSign (F : Nat → Nat → Int32) (j : Nat) (p0 p1 : Int32) : Nat := if okI p0 16 = true then (if mSgn F j p1 = 32 then 1 else 0) else 1
abbrev PX3_letter (G : va_G) (T : Nat → ClassId) (p0 p1 : Int32) (sz : Nat) : Array Value → State → Prop := gPc G T [.int p0, .int p1] ([] : va_W) sz
abbrev QX3_letter (G : va_G) (T : Nat → ClassId) (p0 p1 : Int32) (sz : Nat) : Array Value → State → Outcome → State → Prop := va_Qi (fun (r : Int32) (_ : Unit) => r = mLet p0 p1) (gB G (([] : va_W))) (va_A ([] : va_W) sz)
set_option maxHeartbeats 4000000 in
set_option maxRecDepth 100000 in
theorem kX3_letter (l : Launch) (G : va_G) (T : Nat → ClassId) (p0 p1 : Int32) (sz : Nat)  : Met l yX3_letter wsX3_letter ({ frames := 0, cells := 0, slots := 0, locals := 0 } : Room) (PX3_letter G T p0 p1 sz) (QX3_letter G T p0 p1 sz) 0 0 (va_A ([] : va_W) sz) := by
  refine Met.ofW (cc := cX3_letter) (maxL := 2) (ret := (some .char)) (by decide) rfl ?_
  intro p e s m args below meth c s₁ B hml hv
  obtain ⟨rfl, hsz, hP, hK, hD0, hE⟩ := hv
  have hx := B.exec
  have hb := B.bytes
  have hr := B.returns
  have hts := atoms_spec (ws := wsX3_letter) B.pre
  have hown : s.vm.findClass RX3 = some m.cls := findClass_of_methodNamed B.named
  have hlocks := B.notSynchronized
  subst hsz
  have hD := hD0.self (sz := s.heap.size)
  have hA : ∀ q : Nat, s.heap.size ≤ q → (va_A ([] : va_W) s.heap.size) q := fun q h => Or.inr h
  have hS : va_S (va_A ([] : va_W) s.heap.size) s.heap s.heap [] := va_S.rf
  have hl := lv_entry ([.int p0, .int p1]) (n := 2) (Nat.le_of_ble_eq_true rfl)
  rw [lg_entry_eq]
  generalize (lg_sl ([.int p0, .int p1]) ++ List.replicate (2 - (lg_sl ([.int p0, .int p1])).length) Slot.unset).toArray = ls at hl ⊢
  have hl : lv_has ls 2 [(0, .int p0), (1, .int p1)] := hl
  have hP : va_P G vwCl (([] : va_W)) s.heap := hP
  refine lv_iload_n hx hb dX3_letter_0 rfl (lv_at hl 0 rfl) ?_
  by_cases c1_0 : p0 = 0
  · skip
    refine lv_tableIn (off := 35) (tgt := 36) hx hb dX3_letter_1 (by rw [c1_0]; decide) (by rw [c1_0]; decide) (by rw [c1_0]; decide) (by decide) ?_
    refine lv_iload_n hx hb dX3_letter_36 rfl (lv_at hl 1 rfl) ?_
    refine lv_if_ne (tgt := 45) hx hb dX3_letter_37 (by decide) (fun c37 => ?_) (fun c37 => ?_)
    · skip
      refine lv_iload_n hx hb dX3_letter_45 rfl (lv_at hl 1 rfl) ?_
      refine lv_iconst (v := 1) hx hb dX3_letter_46 (by decide) ?_
      refine lv_icmp_ne (tgt := 55) hx hb dX3_letter_47 (by decide) (fun c47 => ?_) (fun c47 => ?_)
      · skip
        refine lv_iload_n hx hb dX3_letter_55 rfl (lv_at hl 1 rfl) ?_
        refine lv_iconst (v := 4) hx hb dX3_letter_56 (by decide) ?_
        refine lv_icmp_ge (tgt := 65) hx hb dX3_letter_57 (by decide) (fun c57 => ?_) (fun c57 => ?_)
        · skip
          refine lv_bipush (v := 32) hx hb dX3_letter_65 (by decide) ?_
          exact W.zret (v := 32) hx hb hr (by decide) (fun t ht9 hW => ⟨⟨32, (), rfl, by simp only [mLet, eq_true c1_0, eq_false c37, eq_false c47, eq_true c57, if_true, if_false], gBi ht9 (gfin hP (rfl))⟩, hS.F ht9⟩) hS.2.2 dX3_letter_67
        · skip
          refine lv_bipush (v := 101) hx hb dX3_letter_60 (by decide) ?_
          refine lv_goto (tgt := 67) hx hb dX3_letter_62 (by decide) ?_
          exact W.zret (v := 101) hx hb hr (by decide) (fun t ht9 hW => ⟨⟨101, (), rfl, by simp only [mLet, eq_true c1_0, eq_false c37, eq_false c47, eq_false c57, if_true, if_false], gBi ht9 (gfin hP (rfl))⟩, hS.F ht9⟩) hS.2.2 dX3_letter_67
      · skip
        refine lv_bipush (v := 114) hx hb dX3_letter_50 (by decide) ?_
        refine lv_goto (tgt := 67) hx hb dX3_letter_52 (by decide) ?_
        exact W.zret (v := 114) hx hb hr (by decide) (fun t ht9 hW => ⟨⟨114, (), rfl, by simp only [mLet, eq_true c1_0, eq_false c37, eq_true c47, if_true, if_false], gBi ht9 (gfin hP (rfl))⟩, hS.F ht9⟩) hS.2.2 dX3_letter_67
    · skip
      refine lv_bipush (v := 102) hx hb dX3_letter_40 (by decide) ?_
      refine lv_goto (tgt := 67) hx hb dX3_letter_42 (by decide) ?_
      exact W.zret (v := 102) hx hb hr (by decide) (fun t ht9 hW => ⟨⟨102, (), rfl, by simp only [mLet, eq_true c1_0, eq_true c37, if_true, if_false], gBi ht9 (gfin hP (rfl))⟩, hS.F ht9⟩) hS.2.2 dX3_letter_67
  · skip
    by_cases c1_1 : p0 = 1
    · skip
      refine lv_tableIn (off := 67) (tgt := 68) hx hb dX3_letter_1 (by rw [c1_1]; decide) (by rw [c1_1]; decide) (by rw [c1_1]; decide) (by decide) ?_
      refine lv_iload_n hx hb dX3_letter_68 rfl (lv_at hl 1 rfl) ?_
      refine lv_if_ne (tgt := 77) hx hb dX3_letter_69 (by decide) (fun c69 => ?_) (fun c69 => ?_)
      · skip
        refine lv_iload_n hx hb dX3_letter_77 rfl (lv_at hl 1 rfl) ?_
        refine lv_iconst (v := 1) hx hb dX3_letter_78 (by decide) ?_
        refine lv_icmp_ne (tgt := 87) hx hb dX3_letter_79 (by decide) (fun c79 => ?_) (fun c79 => ?_)
        · skip
          refine lv_iload_n hx hb dX3_letter_87 rfl (lv_at hl 1 rfl) ?_
          refine lv_iconst (v := 2) hx hb dX3_letter_88 (by decide) ?_
          refine lv_icmp_ne (tgt := 97) hx hb dX3_letter_89 (by decide) (fun c89 => ?_) (fun c89 => ?_)
          · skip
            refine lv_iload_n hx hb dX3_letter_97 rfl (lv_at hl 1 rfl) ?_
            refine lv_iconst (v := 3) hx hb dX3_letter_98 (by decide) ?_
            refine lv_icmp_ne (tgt := 107) hx hb dX3_letter_99 (by decide) (fun c99 => ?_) (fun c99 => ?_)
            · skip
              refine lv_iload_n hx hb dX3_letter_107 rfl (lv_at hl 1 rfl) ?_
              refine lv_iconst (v := 4) hx hb dX3_letter_108 (by decide) ?_
              refine lv_icmp_ne (tgt := 117) hx hb dX3_letter_109 (by decide) (fun c109 => ?_) (fun c109 => ?_)
              · skip
                refine lv_iload_n hx hb dX3_letter_117 rfl (lv_at hl 1 rfl) ?_
                refine lv_iconst (v := 5) hx hb dX3_letter_118 (by decide) ?_
                refine lv_icmp_ne (tgt := 127) hx hb dX3_letter_119 (by decide) (fun c119 => ?_) (fun c119 => ?_)
                · skip
                  refine lv_iload_n hx hb dX3_letter_127 rfl (lv_at hl 1 rfl) ?_
                  refine lv_bipush (v := 6) hx hb dX3_letter_128 (by decide) ?_
                  refine lv_icmp_ne (tgt := 138) hx hb dX3_letter_130 (by decide) (fun c130 => ?_) (fun c130 => ?_)
                  · skip
                    refine lv_bipush (v := 32) hx hb dX3_letter_138 (by decide) ?_
                    exact W.zret (v := 32) hx hb hr (by decide) (fun t ht9 hW => ⟨⟨32, (), rfl, by simp only [mLet, eq_false c1_0, eq_true c1_1, eq_false c69, eq_false c79, eq_false c89, eq_false c99, eq_false c109, eq_false c119, eq_false c130, if_true, if_false], gBi ht9 (gfin hP (rfl))⟩, hS.F ht9⟩) hS.2.2 dX3_letter_140
                  · skip
                    refine lv_bipush (v := 110) hx hb dX3_letter_133 (by decide) ?_
                    refine lv_goto (tgt := 140) hx hb dX3_letter_135 (by decide) ?_
                    exact W.zret (v := 110) hx hb hr (by decide) (fun t ht9 hW => ⟨⟨110, (), rfl, by simp only [mLet, eq_false c1_0, eq_true c1_1, eq_false c69, eq_false c79, eq_false c89, eq_false c99, eq_false c109, eq_false c119, eq_true c130, if_true, if_false], gBi ht9 (gfin hP (rfl))⟩, hS.F ht9⟩) hS.2.2 dX3_letter_140
                · skip
                  refine lv_bipush (v := 111) hx hb dX3_letter_122 (by decide) ?_
                  refine lv_goto (tgt := 140) hx hb dX3_letter_124 (by decide) ?_
                  exact W.zret (v := 111) hx hb hr (by decide) (fun t ht9 hW => ⟨⟨111, (), rfl, by simp only [mLet, eq_false c1_0, eq_true c1_1, eq_false c69, eq_false c79, eq_false c89, eq_false c99, eq_false c109, eq_true c119, if_true, if_false], gBi ht9 (gfin hP (rfl))⟩, hS.F ht9⟩) hS.2.2 dX3_letter_140
              · skip
                refine lv_bipush (v := 105) hx hb dX3_letter_112 (by decide) ?_
                refine lv_goto (tgt := 140) hx hb dX3_letter_114 (by decide) ?_
                exact W.zret (v := 105) hx hb hr (by decide) (fun t ht9 hW => ⟨⟨105, (), rfl, by simp only [mLet, eq_false c1_0, eq_true c1_1, eq_false c69, eq_false c79, eq_false c89, eq_false c99, eq_true c109, if_true, if_false], gBi ht9 (gfin hP (rfl))⟩, hS.F ht9⟩) hS.2.2 dX3_letter_140
            · skip
              refine lv_bipush (v := 116) hx hb dX3_letter_102 (by decide) ?_
              refine lv_goto (tgt := 140) hx hb dX3_letter_104 (by decide) ?_
              exact W.zret (v := 116) hx hb hr (by decide) (fun t ht9 hW => ⟨⟨116, (), rfl, by simp only [mLet, eq_false c1_0, eq_true c1_1, eq_false c69, eq_false c79, eq_false c89, eq_true c99, if_true, if_false], gBi ht9 (gfin hP (rfl))⟩, hS.F ht9⟩) hS.2.2 dX3_letter_140
          · skip
            refine lv_bipush (v := 99) hx hb dX3_letter_92 (by decide) ?_
            refine lv_goto (tgt := 140) hx hb dX3_letter_94 (by decide) ?_
            exact W.zret (v := 99) hx hb hr (by decide) (fun t ht9 hW => ⟨⟨99, (), rfl, by simp only [mLet, eq_false c1_0, eq_true c1_1, eq_false c69, eq_false c79, eq_true c89, if_true, if_false], gBi ht9 (gfin hP (rfl))⟩, hS.F ht9⟩) hS.2.2 dX3_letter_140
        · skip
          refine lv_bipush (v := 117) hx hb dX3_letter_82 (by decide) ?_
          refine lv_goto (tgt := 140) hx hb dX3_letter_84 (by decide) ?_
          exact W.zret (v := 117) hx hb hr (by decide) (fun t ht9 hW => ⟨⟨117, (), rfl, by simp only [mLet, eq_false c1_0, eq_true c1_1, eq_false c69, eq_true c79, if_true, if_false], gBi ht9 (gfin hP (rfl))⟩, hS.F ht9⟩) hS.2.2 dX3_letter_140
      · skip
        refine lv_bipush (v := 97) hx hb dX3_letter_72 (by decide) ?_
        refine lv_goto (tgt := 140) hx hb dX3_letter_74 (by decide) ?_
        exact W.zret (v := 97) hx hb hr (by decide) (fun t ht9 hW => ⟨⟨97, (), rfl, by simp only [mLet, eq_false c1_0, eq_true c1_1, eq_true c69, if_true, if_false], gBi ht9 (gfin hP (rfl))⟩, hS.F ht9⟩) hS.2.2 dX3_letter_140
    · skip
      by_cases c1_2 : p0 = 2
      · skip
        refine lv_tableIn (off := 140) (tgt := 141) hx hb dX3_letter_1 (by rw [c1_2]; decide) (by rw [c1_2]; decide) (by rw [c1_2]; decide) (by decide) ?_
        refine lv_iload_n hx hb dX3_letter_141 rfl (lv_at hl 1 rfl) ?_
        refine lv_if_ne (tgt := 150) hx hb dX3_letter_142 (by decide) (fun c142 => ?_) (fun c142 => ?_)
        · skip
          refine lv_iload_n hx hb dX3_letter_150 rfl (lv_at hl 1 rfl) ?_
          refine lv_iconst (v := 1) hx hb dX3_letter_151 (by decide) ?_
          refine lv_icmp_eq (tgt := 160) hx hb dX3_letter_152 (by decide) (fun c152 => ?_) (fun c152 => ?_)
          · skip
            refine lv_bipush (v := 101) hx hb dX3_letter_160 (by decide) ?_
            refine lv_goto (tgt := 197) hx hb dX3_letter_162 (by decide) ?_
            exact W.zret (v := 101) hx hb hr (by decide) (fun t ht9 hW => ⟨⟨101, (), rfl, by simp only [mLet, eq_false c1_0, eq_false c1_1, eq_true c1_2, eq_false c142, eq_true c152, if_true, if_false], gBi ht9 (gfin hP (rfl))⟩, hS.F ht9⟩) hS.2.2 dX3_letter_197
          · skip
            refine lv_iload_n hx hb dX3_letter_155 rfl (lv_at hl 1 rfl) ?_
            refine lv_iconst (v := 4) hx hb dX3_letter_156 (by decide) ?_
            refine lv_icmp_ne (tgt := 165) hx hb dX3_letter_157 (by decide) (fun c157 => ?_) (fun c157 => ?_)
            · skip
              refine lv_iload_n hx hb dX3_letter_165 rfl (lv_at hl 1 rfl) ?_
              refine lv_iconst (v := 2) hx hb dX3_letter_166 (by decide) ?_
              refine lv_icmp_ne (tgt := 175) hx hb dX3_letter_167 (by decide) (fun c167 => ?_) (fun c167 => ?_)
              · skip
                refine lv_iload_n hx hb dX3_letter_175 rfl (lv_at hl 1 rfl) ?_
                refine lv_iconst (v := 3) hx hb dX3_letter_176 (by decide) ?_
                refine lv_icmp_ne (tgt := 185) hx hb dX3_letter_177 (by decide) (fun c177 => ?_) (fun c177 => ?_)
                · skip
                  refine lv_iload_n hx hb dX3_letter_185 rfl (lv_at hl 1 rfl) ?_
                  refine lv_iconst (v := 5) hx hb dX3_letter_186 (by decide) ?_
                  refine lv_icmp_ne (tgt := 195) hx hb dX3_letter_187 (by decide) (fun c187 => ?_) (fun c187 => ?_)
                  · skip
                    refine lv_bipush (v := 32) hx hb dX3_letter_195 (by decide) ?_
                    exact W.zret (v := 32) hx hb hr (by decide) (fun t ht9 hW => ⟨⟨32, (), rfl, by simp only [mLet, eq_false c1_0, eq_false c1_1, eq_true c1_2, eq_false c142, eq_false c152, eq_false c157, eq_false c167, eq_false c177, eq_false c187, if_true, if_false], gBi ht9 (gfin hP (rfl))⟩, hS.F ht9⟩) hS.2.2 dX3_letter_197
                  · skip
                    refine lv_bipush (v := 100) hx hb dX3_letter_190 (by decide) ?_
                    refine lv_goto (tgt := 197) hx hb dX3_letter_192 (by decide) ?_
                    exact W.zret (v := 100) hx hb hr (by decide) (fun t ht9 hW => ⟨⟨100, (), rfl, by simp only [mLet, eq_false c1_0, eq_false c1_1, eq_true c1_2, eq_false c142, eq_false c152, eq_false c157, eq_false c167, eq_false c177, eq_true c187, if_true, if_false], gBi ht9 (gfin hP (rfl))⟩, hS.F ht9⟩) hS.2.2 dX3_letter_197
                · skip
                  refine lv_bipush (v := 115) hx hb dX3_letter_180 (by decide) ?_
                  refine lv_goto (tgt := 197) hx hb dX3_letter_182 (by decide) ?_
                  exact W.zret (v := 115) hx hb hr (by decide) (fun t ht9 hW => ⟨⟨115, (), rfl, by simp only [mLet, eq_false c1_0, eq_false c1_1, eq_true c1_2, eq_false c142, eq_false c152, eq_false c157, eq_false c167, eq_true c177, if_true, if_false], gBi ht9 (gfin hP (rfl))⟩, hS.F ht9⟩) hS.2.2 dX3_letter_197
              · skip
                refine lv_bipush (v := 97) hx hb dX3_letter_170 (by decide) ?_
                refine lv_goto (tgt := 197) hx hb dX3_letter_172 (by decide) ?_
                exact W.zret (v := 97) hx hb hr (by decide) (fun t ht9 hW => ⟨⟨97, (), rfl, by simp only [mLet, eq_false c1_0, eq_false c1_1, eq_true c1_2, eq_false c142, eq_false c152, eq_false c157, eq_true c167, if_true, if_false], gBi ht9 (gfin hP (rfl))⟩, hS.F ht9⟩) hS.2.2 dX3_letter_197
            · skip
              refine lv_bipush (v := 101) hx hb dX3_letter_160 (by decide) ?_
              refine lv_goto (tgt := 197) hx hb dX3_letter_162 (by decide) ?_
              exact W.zret (v := 101) hx hb hr (by decide) (fun t ht9 hW => ⟨⟨101, (), rfl, by simp only [mLet, eq_false c1_0, eq_false c1_1, eq_true c1_2, eq_false c142, eq_false c152, eq_true c157, if_true, if_false], gBi ht9 (gfin hP (rfl))⟩, hS.F ht9⟩) hS.2.2 dX3_letter_197
        · skip
          refine lv_bipush (v := 108) hx hb dX3_letter_145 (by decide) ?_
          refine lv_goto (tgt := 197) hx hb dX3_letter_147 (by decide) ?_
          exact W.zret (v := 108) hx hb hr (by decide) (fun t ht9 hW => ⟨⟨108, (), rfl, by simp only [mLet, eq_false c1_0, eq_false c1_1, eq_true c1_2, eq_true c142, if_true, if_false], gBi ht9 (gfin hP (rfl))⟩, hS.F ht9⟩) hS.2.2 dX3_letter_197
      · skip
        by_cases c1_3 : p0 = 3
        · skip
          refine lv_tableIn (off := 197) (tgt := 198) hx hb dX3_letter_1 (by rw [c1_3]; decide) (by rw [c1_3]; decide) (by rw [c1_3]; decide) (by decide) ?_
          refine lv_iload_n hx hb dX3_letter_198 rfl (lv_at hl 1 rfl) ?_
          refine lv_if_ne (tgt := 207) hx hb dX3_letter_199 (by decide) (fun c199 => ?_) (fun c199 => ?_)
          · skip
            refine lv_iload_n hx hb dX3_letter_207 rfl (lv_at hl 1 rfl) ?_
            refine lv_iconst (v := 1) hx hb dX3_letter_208 (by decide) ?_
            refine lv_icmp_ne (tgt := 217) hx hb dX3_letter_209 (by decide) (fun c209 => ?_) (fun c209 => ?_)
            · skip
              refine lv_iload_n hx hb dX3_letter_217 rfl (lv_at hl 1 rfl) ?_
              refine lv_iconst (v := 2) hx hb dX3_letter_218 (by decide) ?_
              refine lv_icmp_ne (tgt := 227) hx hb dX3_letter_219 (by decide) (fun c219 => ?_) (fun c219 => ?_)
              · skip
                refine lv_iload_n hx hb dX3_letter_227 rfl (lv_at hl 1 rfl) ?_
                refine lv_iconst (v := 3) hx hb dX3_letter_228 (by decide) ?_
                refine lv_icmp_ne (tgt := 237) hx hb dX3_letter_229 (by decide) (fun c229 => ?_) (fun c229 => ?_)
                · skip
                  refine lv_iload_n hx hb dX3_letter_237 rfl (lv_at hl 1 rfl) ?_
                  refine lv_iconst (v := 4) hx hb dX3_letter_238 (by decide) ?_
                  refine lv_icmp_ne (tgt := 247) hx hb dX3_letter_239 (by decide) (fun c239 => ?_) (fun c239 => ?_)
                  · skip
                    refine lv_bipush (v := 32) hx hb dX3_letter_247 (by decide) ?_
                    exact W.zret (v := 32) hx hb hr (by decide) (fun t ht9 hW => ⟨⟨32, (), rfl, by simp only [mLet, eq_false c1_0, eq_false c1_1, eq_false c1_2, eq_true c1_3, eq_false c199, eq_false c209, eq_false c219, eq_false c229, eq_false c239, if_true, if_false], gBi ht9 (gfin hP (rfl))⟩, hS.F ht9⟩) hS.2.2 dX3_letter_249
                  · skip
                    refine lv_bipush (v := 101) hx hb dX3_letter_242 (by decide) ?_
                    refine lv_goto (tgt := 249) hx hb dX3_letter_244 (by decide) ?_
                    exact W.zret (v := 101) hx hb hr (by decide) (fun t ht9 hW => ⟨⟨101, (), rfl, by simp only [mLet, eq_false c1_0, eq_false c1_1, eq_false c1_2, eq_true c1_3, eq_false c199, eq_false c209, eq_false c219, eq_false c229, eq_true c239, if_true, if_false], gBi ht9 (gfin hP (rfl))⟩, hS.F ht9⟩) hS.2.2 dX3_letter_249
                · skip
                  refine lv_bipush (v := 99) hx hb dX3_letter_232 (by decide) ?_
                  refine lv_goto (tgt := 249) hx hb dX3_letter_234 (by decide) ?_
                  exact W.zret (v := 99) hx hb hr (by decide) (fun t ht9 hW => ⟨⟨99, (), rfl, by simp only [mLet, eq_false c1_0, eq_false c1_1, eq_false c1_2, eq_true c1_3, eq_false c199, eq_false c209, eq_false c219, eq_true c229, if_true, if_false], gBi ht9 (gfin hP (rfl))⟩, hS.F ht9⟩) hS.2.2 dX3_letter_249
              · skip
                refine lv_bipush (v := 97) hx hb dX3_letter_222 (by decide) ?_
                refine lv_goto (tgt := 249) hx hb dX3_letter_224 (by decide) ?_
                exact W.zret (v := 97) hx hb hr (by decide) (fun t ht9 hW => ⟨⟨97, (), rfl, by simp only [mLet, eq_false c1_0, eq_false c1_1, eq_false c1_2, eq_true c1_3, eq_false c199, eq_false c209, eq_true c219, if_true, if_false], gBi ht9 (gfin hP (rfl))⟩, hS.F ht9⟩) hS.2.2 dX3_letter_249
            · skip
              refine lv_bipush (v := 114) hx hb dX3_letter_212 (by decide) ?_
              refine lv_goto (tgt := 249) hx hb dX3_letter_214 (by decide) ?_
              exact W.zret (v := 114) hx hb hr (by decide) (fun t ht9 hW => ⟨⟨114, (), rfl, by simp only [mLet, eq_false c1_0, eq_false c1_1, eq_false c1_2, eq_true c1_3, eq_false c199, eq_true c209, if_true, if_false], gBi ht9 (gfin hP (rfl))⟩, hS.F ht9⟩) hS.2.2 dX3_letter_249
          · skip
            refine lv_bipush (v := 103) hx hb dX3_letter_202 (by decide) ?_
            refine lv_goto (tgt := 249) hx hb dX3_letter_204 (by decide) ?_
            exact W.zret (v := 103) hx hb hr (by decide) (fun t ht9 hW => ⟨⟨103, (), rfl, by simp only [mLet, eq_false c1_0, eq_false c1_1, eq_false c1_2, eq_true c1_3, eq_true c199, if_true, if_false], gBi ht9 (gfin hP (rfl))⟩, hS.F ht9⟩) hS.2.2 dX3_letter_249
        · skip
          by_cases c1_4 : p0 = 4
          · skip
            refine lv_tableIn (off := 249) (tgt := 250) hx hb dX3_letter_1 (by rw [c1_4]; decide) (by rw [c1_4]; decide) (by rw [c1_4]; decide) (by decide) ?_
            refine lv_iload_n hx hb dX3_letter_250 rfl (lv_at hl 1 rfl) ?_
            refine lv_if_ne (tgt := 259) hx hb dX3_letter_251 (by decide) (fun c251 => ?_) (fun c251 => ?_)
            · skip
              refine lv_iload_n hx hb dX3_letter_259 rfl (lv_at hl 1 rfl) ?_
              refine lv_iconst (v := 1) hx hb dX3_letter_260 (by decide) ?_
              refine lv_icmp_eq (tgt := 269) hx hb dX3_letter_261 (by decide) (fun c261 => ?_) (fun c261 => ?_)
              · skip
                refine lv_bipush (v := 101) hx hb dX3_letter_269 (by decide) ?_
                refine lv_goto (tgt := 350) hx hb dX3_letter_271 (by decide) ?_
                exact W.zret (v := 101) hx hb hr (by decide) (fun t ht9 hW => ⟨⟨101, (), rfl, by simp only [mLet, eq_false c1_0, eq_false c1_1, eq_false c1_2, eq_false c1_3, eq_true c1_4, eq_false c251, eq_true c261, if_true, if_false], gBi ht9 (gfin hP (rfl))⟩, hS.F ht9⟩) hS.2.2 dX3_letter_350
              · skip
                refine lv_iload_n hx hb dX3_letter_264 rfl (lv_at hl 1 rfl) ?_
                refine lv_iconst (v := 3) hx hb dX3_letter_265 (by decide) ?_
                refine lv_icmp_ne (tgt := 274) hx hb dX3_letter_266 (by decide) (fun c266 => ?_) (fun c266 => ?_)
                · skip
                  refine lv_iload_n hx hb dX3_letter_274 rfl (lv_at hl 1 rfl) ?_
                  refine lv_iconst (v := 2) hx hb dX3_letter_275 (by decide) ?_
                  refine lv_icmp_ne (tgt := 284) hx hb dX3_letter_276 (by decide) (fun c276 => ?_) (fun c276 => ?_)
                  · skip
                    refine lv_iload_n hx hb dX3_letter_284 rfl (lv_at hl 1 rfl) ?_
                    refine lv_iconst (v := 4) hx hb dX3_letter_285 (by decide) ?_
                    refine lv_icmp_ne (tgt := 294) hx hb dX3_letter_286 (by decide) (fun c286 => ?_) (fun c286 => ?_)
                    · skip
                      refine lv_iload_n hx hb dX3_letter_294 rfl (lv_at hl 1 rfl) ?_
                      refine lv_iconst (v := 5) hx hb dX3_letter_295 (by decide) ?_
                      refine lv_icmp_ne (tgt := 304) hx hb dX3_letter_296 (by decide) (fun c296 => ?_) (fun c296 => ?_)
                      · skip
                        refine lv_iload_n hx hb dX3_letter_304 rfl (lv_at hl 1 rfl) ?_
                        refine lv_bipush (v := 6) hx hb dX3_letter_305 (by decide) ?_
                        refine lv_icmp_ne (tgt := 315) hx hb dX3_letter_307 (by decide) (fun c307 => ?_) (fun c307 => ?_)
                        · skip
                          refine lv_iload_n hx hb dX3_letter_315 rfl (lv_at hl 1 rfl) ?_
                          refine lv_bipush (v := 7) hx hb dX3_letter_316 (by decide) ?_
                          refine lv_icmp_ne (tgt := 326) hx hb dX3_letter_318 (by decide) (fun c318 => ?_) (fun c318 => ?_)
                          · skip
                            refine lv_iload_n hx hb dX3_letter_326 rfl (lv_at hl 1 rfl) ?_
                            refine lv_bipush (v := 8) hx hb dX3_letter_327 (by decide) ?_
                            refine lv_icmp_ne (tgt := 337) hx hb dX3_letter_329 (by decide) (fun c329 => ?_) (fun c329 => ?_)
                            · skip
                              refine lv_iload_n hx hb dX3_letter_337 rfl (lv_at hl 1 rfl) ?_
                              refine lv_bipush (v := 9) hx hb dX3_letter_338 (by decide) ?_
                              refine lv_icmp_ne (tgt := 348) hx hb dX3_letter_340 (by decide) (fun c340 => ?_) (fun c340 => ?_)
                              · skip
                                refine lv_bipush (v := 32) hx hb dX3_letter_348 (by decide) ?_
                                exact W.zret (v := 32) hx hb hr (by decide) (fun t ht9 hW => ⟨⟨32, (), rfl, by simp only [mLet, eq_false c1_0, eq_false c1_1, eq_false c1_2, eq_false c1_3, eq_true c1_4, eq_false c251, eq_false c261, eq_false c266, eq_false c276, eq_false c286, eq_false c296, eq_false c307, eq_false c318, eq_false c329, eq_false c340, if_true, if_false], gBi ht9 (gfin hP (rfl))⟩, hS.F ht9⟩) hS.2.2 dX3_letter_350
                              · skip
                                refine lv_bipush (v := 110) hx hb dX3_letter_343 (by decide) ?_
                                refine lv_goto (tgt := 350) hx hb dX3_letter_345 (by decide) ?_
                                exact W.zret (v := 110) hx hb hr (by decide) (fun t ht9 hW => ⟨⟨110, (), rfl, by simp only [mLet, eq_false c1_0, eq_false c1_1, eq_false c1_2, eq_false c1_3, eq_true c1_4, eq_false c251, eq_false c261, eq_false c266, eq_false c276, eq_false c286, eq_false c296, eq_false c307, eq_false c318, eq_false c329, eq_true c340, if_true, if_false], gBi ht9 (gfin hP (rfl))⟩, hS.F ht9⟩) hS.2.2 dX3_letter_350
                            · skip
                              refine lv_bipush (v := 111) hx hb dX3_letter_332 (by decide) ?_
                              refine lv_goto (tgt := 350) hx hb dX3_letter_334 (by decide) ?_
                              exact W.zret (v := 111) hx hb hr (by decide) (fun t ht9 hW => ⟨⟨111, (), rfl, by simp only [mLet, eq_false c1_0, eq_false c1_1, eq_false c1_2, eq_false c1_3, eq_true c1_4, eq_false c251, eq_false c261, eq_false c266, eq_false c276, eq_false c286, eq_false c296, eq_false c307, eq_false c318, eq_true c329, if_true, if_false], gBi ht9 (gfin hP (rfl))⟩, hS.F ht9⟩) hS.2.2 dX3_letter_350
                          · skip
                            refine lv_bipush (v := 105) hx hb dX3_letter_321 (by decide) ?_
                            refine lv_goto (tgt := 350) hx hb dX3_letter_323 (by decide) ?_
                            exact W.zret (v := 105) hx hb hr (by decide) (fun t ht9 hW => ⟨⟨105, (), rfl, by simp only [mLet, eq_false c1_0, eq_false c1_1, eq_false c1_2, eq_false c1_3, eq_true c1_4, eq_false c251, eq_false c261, eq_false c266, eq_false c276, eq_false c286, eq_false c296, eq_false c307, eq_true c318, if_true, if_false], gBi ht9 (gfin hP (rfl))⟩, hS.F ht9⟩) hS.2.2 dX3_letter_350
                        · skip
                          refine lv_bipush (v := 116) hx hb dX3_letter_310 (by decide) ?_
                          refine lv_goto (tgt := 350) hx hb dX3_letter_312 (by decide) ?_
                          exact W.zret (v := 116) hx hb hr (by decide) (fun t ht9 hW => ⟨⟨116, (), rfl, by simp only [mLet, eq_false c1_0, eq_false c1_1, eq_false c1_2, eq_false c1_3, eq_true c1_4, eq_false c251, eq_false c261, eq_false c266, eq_false c276, eq_false c286, eq_false c296, eq_true c307, if_true, if_false], gBi ht9 (gfin hP (rfl))⟩, hS.F ht9⟩) hS.2.2 dX3_letter_350
                      · skip
                        refine lv_bipush (v := 112) hx hb dX3_letter_299 (by decide) ?_
                        refine lv_goto (tgt := 350) hx hb dX3_letter_301 (by decide) ?_
                        exact W.zret (v := 112) hx hb hr (by decide) (fun t ht9 hW => ⟨⟨112, (), rfl, by simp only [mLet, eq_false c1_0, eq_false c1_1, eq_false c1_2, eq_false c1_3, eq_true c1_4, eq_false c251, eq_false c261, eq_false c266, eq_false c276, eq_false c286, eq_true c296, if_true, if_false], gBi ht9 (gfin hP (rfl))⟩, hS.F ht9⟩) hS.2.2 dX3_letter_350
                    · skip
                      refine lv_bipush (v := 109) hx hb dX3_letter_289 (by decide) ?_
                      refine lv_goto (tgt := 350) hx hb dX3_letter_291 (by decide) ?_
                      exact W.zret (v := 109) hx hb hr (by decide) (fun t ht9 hW => ⟨⟨109, (), rfl, by simp only [mLet, eq_false c1_0, eq_false c1_1, eq_false c1_2, eq_false c1_3, eq_true c1_4, eq_false c251, eq_false c261, eq_false c266, eq_false c276, eq_true c286, if_true, if_false], gBi ht9 (gfin hP (rfl))⟩, hS.F ht9⟩) hS.2.2 dX3_letter_350
                  · skip
                    refine lv_bipush (v := 100) hx hb dX3_letter_279 (by decide) ?_
                    refine lv_goto (tgt := 350) hx hb dX3_letter_281 (by decide) ?_
                    exact W.zret (v := 100) hx hb hr (by decide) (fun t ht9 hW => ⟨⟨100, (), rfl, by simp only [mLet, eq_false c1_0, eq_false c1_1, eq_false c1_2, eq_false c1_3, eq_true c1_4, eq_false c251, eq_false c261, eq_false c266, eq_true c276, if_true, if_false], gBi ht9 (gfin hP (rfl))⟩, hS.F ht9⟩) hS.2.2 dX3_letter_350
                · skip
                  refine lv_bipush (v := 101) hx hb dX3_letter_269 (by decide) ?_
                  refine lv_goto (tgt := 350) hx hb dX3_letter_271 (by decide) ?_
                  exact W.zret (v := 101) hx hb hr (by decide) (fun t ht9 hW => ⟨⟨101, (), rfl, by simp only [mLet, eq_false c1_0, eq_false c1_1, eq_false c1_2, eq_false c1_3, eq_true c1_4, eq_false c251, eq_false c261, eq_true c266, if_true, if_false], gBi ht9 (gfin hP (rfl))⟩, hS.F ht9⟩) hS.2.2 dX3_letter_350
            · skip
              refine lv_bipush (v := 114) hx hb dX3_letter_254 (by decide) ?_
              refine lv_goto (tgt := 350) hx hb dX3_letter_256 (by decide) ?_
              exact W.zret (v := 114) hx hb hr (by decide) (fun t ht9 hW => ⟨⟨114, (), rfl, by simp only [mLet, eq_false c1_0, eq_false c1_1, eq_false c1_2, eq_false c1_3, eq_true c1_4, eq_true c251, if_true, if_false], gBi ht9 (gfin hP (rfl))⟩, hS.F ht9⟩) hS.2.2 dX3_letter_350
          · skip
            have e1_0 : (p0).toInt ≠ 0 := fun z => c1_0 (Int32.toInt_inj.mp z)
            have e1_1 : (p0).toInt ≠ 1 := fun z => c1_1 (Int32.toInt_inj.mp z)
            have e1_2 : (p0).toInt ≠ 2 := fun z => c1_2 (Int32.toInt_inj.mp z)
            have e1_3 : (p0).toInt ≠ 3 := fun z => c1_3 (Int32.toInt_inj.mp z)
            have e1_4 : (p0).toInt ≠ 4 := fun z => c1_4 (Int32.toInt_inj.mp z)
            refine lv_tableOut (tgt := 351) hx hb dX3_letter_1 (by omega) (by decide) ?_
            refine lv_iload_n hx hb dX3_letter_351 rfl (lv_at hl 1 rfl) ?_
            refine lv_if_ne (tgt := 360) hx hb dX3_letter_352 (by decide) (fun c352 => ?_) (fun c352 => ?_)
            · skip
              refine lv_iload_n hx hb dX3_letter_360 rfl (lv_at hl 1 rfl) ?_
              refine lv_iconst (v := 1) hx hb dX3_letter_361 (by decide) ?_
              refine lv_icmp_ne (tgt := 370) hx hb dX3_letter_362 (by decide) (fun c362 => ?_) (fun c362 => ?_)
              · skip
                refine lv_iload_n hx hb dX3_letter_370 rfl (lv_at hl 1 rfl) ?_
                refine lv_iconst (v := 2) hx hb dX3_letter_371 (by decide) ?_
                refine lv_icmp_ne (tgt := 380) hx hb dX3_letter_372 (by decide) (fun c372 => ?_) (fun c372 => ?_)
                · skip
                  refine lv_iload_n hx hb dX3_letter_380 rfl (lv_at hl 1 rfl) ?_
                  refine lv_iconst (v := 3) hx hb dX3_letter_381 (by decide) ?_
                  refine lv_icmp_ne (tgt := 390) hx hb dX3_letter_382 (by decide) (fun c382 => ?_) (fun c382 => ?_)
                  · skip
                    refine lv_iload_n hx hb dX3_letter_390 rfl (lv_at hl 1 rfl) ?_
                    refine lv_iconst (v := 4) hx hb dX3_letter_391 (by decide) ?_
                    refine lv_icmp_ne (tgt := 400) hx hb dX3_letter_392 (by decide) (fun c392 => ?_) (fun c392 => ?_)
                    · skip
                      refine lv_iload_n hx hb dX3_letter_400 rfl (lv_at hl 1 rfl) ?_
                      refine lv_iconst (v := 5) hx hb dX3_letter_401 (by decide) ?_
                      refine lv_icmp_ne (tgt := 410) hx hb dX3_letter_402 (by decide) (fun c402 => ?_) (fun c402 => ?_)
                      · skip
                        refine lv_bipush (v := 32) hx hb dX3_letter_410 (by decide) ?_
                        exact W.zret (v := 32) hx hb hr (by decide) (fun t ht9 hW => ⟨⟨32, (), rfl, by simp only [mLet, eq_false c1_0, eq_false c1_1, eq_false c1_2, eq_false c1_3, eq_false c1_4, eq_false c352, eq_false c362, eq_false c372, eq_false c382, eq_false c392, eq_false c402, if_true, if_false], gBi ht9 (gfin hP (rfl))⟩, hS.F ht9⟩) hS.2.2 dX3_letter_412
                      · skip
                        refine lv_bipush (v := 110) hx hb dX3_letter_405 (by decide) ?_
                        refine lv_goto (tgt := 412) hx hb dX3_letter_407 (by decide) ?_
                        exact W.zret (v := 110) hx hb hr (by decide) (fun t ht9 hW => ⟨⟨110, (), rfl, by simp only [mLet, eq_false c1_0, eq_false c1_1, eq_false c1_2, eq_false c1_3, eq_false c1_4, eq_false c352, eq_false c362, eq_false c372, eq_false c382, eq_false c392, eq_true c402, if_true, if_false], gBi ht9 (gfin hP (rfl))⟩, hS.F ht9⟩) hS.2.2 dX3_letter_412
                    · skip
                      refine lv_bipush (v := 101) hx hb dX3_letter_395 (by decide) ?_
                      refine lv_goto (tgt := 412) hx hb dX3_letter_397 (by decide) ?_
                      exact W.zret (v := 101) hx hb hr (by decide) (fun t ht9 hW => ⟨⟨101, (), rfl, by simp only [mLet, eq_false c1_0, eq_false c1_1, eq_false c1_2, eq_false c1_3, eq_false c1_4, eq_false c352, eq_false c362, eq_false c372, eq_false c382, eq_true c392, if_true, if_false], gBi ht9 (gfin hP (rfl))⟩, hS.F ht9⟩) hS.2.2 dX3_letter_412
                  · skip
                    refine lv_bipush (v := 122) hx hb dX3_letter_385 (by decide) ?_
                    refine lv_goto (tgt := 412) hx hb dX3_letter_387 (by decide) ?_
                    exact W.zret (v := 122) hx hb hr (by decide) (fun t ht9 hW => ⟨⟨122, (), rfl, by simp only [mLet, eq_false c1_0, eq_false c1_1, eq_false c1_2, eq_false c1_3, eq_false c1_4, eq_false c352, eq_false c362, eq_false c372, eq_true c382, if_true, if_false], gBi ht9 (gfin hP (rfl))⟩, hS.F ht9⟩) hS.2.2 dX3_letter_412
                · skip
                  refine lv_bipush (v := 111) hx hb dX3_letter_375 (by decide) ?_
                  refine lv_goto (tgt := 412) hx hb dX3_letter_377 (by decide) ?_
                  exact W.zret (v := 111) hx hb hr (by decide) (fun t ht9 hW => ⟨⟨111, (), rfl, by simp only [mLet, eq_false c1_0, eq_false c1_1, eq_false c1_2, eq_false c1_3, eq_false c1_4, eq_false c352, eq_false c362, eq_true c372, if_true, if_false], gBi ht9 (gfin hP (rfl))⟩, hS.F ht9⟩) hS.2.2 dX3_letter_412
              · skip
                refine lv_bipush (v := 114) hx hb dX3_letter_365 (by decide) ?_
                refine lv_goto (tgt := 412) hx hb dX3_letter_367 (by decide) ?_
                exact W.zret (v := 114) hx hb hr (by decide) (fun t ht9 hW => ⟨⟨114, (), rfl, by simp only [mLet, eq_false c1_0, eq_false c1_1, eq_false c1_2, eq_false c1_3, eq_false c1_4, eq_false c352, eq_true c362, if_true, if_false], gBi ht9 (gfin hP (rfl))⟩, hS.F ht9⟩) hS.2.2 dX3_letter_412
            · skip
              refine lv_bipush (v := 102) hx hb dX3_letter_355 (by decide) ?_
              refine lv_goto (tgt := 412) hx hb dX3_letter_357 (by decide) ?_
              exact W.zret (v := 102) hx hb hr (by decide) (fun t ht9 hW => ⟨⟨102, (), rfl, by simp only [mLet, eq_false c1_0, eq_false c1_1, eq_false c1_2, eq_false c1_3, eq_false c1_4, eq_true c352, if_true, if_false], gBi ht9 (gfin hP (rfl))⟩, hS.F ht9⟩) hS.2.2 dX3_letter_412
abbrev PX3_signOf (G : va_G) (T : Nat → ClassId) (x1 : Nat) (A : Nat → Nat) (I1 : Nat → Int32) (F : Nat → Nat → Int32) (j : Nat) (p1 : Int32) (sz : Nat) : Array Value → State → Prop := gPc G T [.ref x1, .int (nI j), .int p1] (cM T x1 A I1 F) sz
abbrev QX3_signOf (G : va_G) (T : Nat → ClassId) (x1 : Nat) (A : Nat → Nat) (I1 : Nat → Int32) (F : Nat → Nat → Int32) (j : Nat) (p1 : Int32) (sz : Nat) : Array Value → State → Outcome → State → Prop := va_Qi (fun (r : Int32) (_ : Unit) => r = mSgn F j p1) (gB G (cM T x1 A I1 F)) (va_A (cM T x1 A I1 F) sz)
set_option maxHeartbeats 4000000 in
set_option maxRecDepth 100000 in
theorem kX3_signOf (l : Launch) (G : va_G) (T : Nat → ClassId) (x1 : Nat) (A : Nat → Nat) (I1 : Nat → Int32) (F : Nat → Nat → Int32) (j : Nat) (p1 : Int32) (sz : Nat) (hj : j < 16) (hs : ∃ s9 : Nat, s9 < 6 ∧ F 3 j = nI s9) : Met l yX3_signOf wsX3_signOf ({ frames := 1, cells := 0, slots := 0, locals := 21 } : Room) (PX3_signOf G T x1 A I1 F j p1 sz) (QX3_signOf G T x1 A I1 F j p1 sz) 0 0 (va_A (cM T x1 A I1 F) sz) := by
  refine Met.ofW (cc := cX3_signOf) (maxL := 5) (ret := (some .char)) (by decide) rfl ?_
  intro p e s m args below meth c s₁ B hml hv
  obtain ⟨rfl, hsz, hP, hK, hD0, hE⟩ := hv
  have hx := B.exec
  have hb := B.bytes
  have hr := B.returns
  have hts := atoms_spec (ws := wsX3_signOf) B.pre
  have hown : s.vm.findClass RX3 = some m.cls := findClass_of_methodNamed B.named
  have hlocks := B.notSynchronized
  subst hsz
  have hD := hD0.self (sz := s.heap.size)
  have hA : ∀ q : Nat, s.heap.size ≤ q → (va_A (cM T x1 A I1 F) s.heap.size) q := fun q h => Or.inr h
  have hS : va_S (va_A (cM T x1 A I1 F) s.heap.size) s.heap s.heap [] := va_S.rf
  have hiRX3 : ∀ w ∈ u_ws RX3 TX3 18, w ∈ wsX3_signOf := by decide +kernel
  have hl := lv_entry ([.ref x1, .int (nI j), .int p1]) (n := 5) (Nat.le_of_ble_eq_true rfl)
  rw [lg_entry_eq]
  generalize (lg_sl ([.ref x1, .int (nI j), .int p1]) ++ List.replicate (5 - (lg_sl ([.ref x1, .int (nI j), .int p1])).length) Slot.unset).toArray = ls at hl ⊢
  have hl : lv_has ls 5 [(0, .ref x1), (1, .int (nI j)), (2, .int p1)] := hl
  have hP : va_P G vwCl (cM T x1 A I1 F) s.heap := hP
  refine lv_iconst (v := 0) hx hb dX3_signOf_0 (by decide) ?_
  refine lv_istore_n (lv' := [(3, .int 0), (0, .ref x1), (1, .int (nI j)), (2, .int p1)]) hx hb dX3_signOf_1 rfl hl (by decide) rfl (fun ls hl => ?_)
  have J2 : ∀ n9 : Nat, ∀ (i : Nat) (H : Heap) (locs : List Loc) (ls : Array Slot), (i ≤ wLen (wIx (F 3 j))) → (wLen (wIx (F 3 j)) + 1 ≤ i + n9) → va_P G vwCl (cM T x1 A I1 F) H → va_D (va_A (cM T x1 A I1 F) s.heap.size) (cM T x1 A I1 F) → va_S (va_A (cM T x1 A I1 F) s.heap.size) s.heap H locs → lv_has ls 5 [(0, .ref x1), (1, .int (nI j)), (2, .int p1), (3, .int (nI i))] → W p l e (headSpec wsX3_signOf ({ frames := 1, cells := 0, slots := 0, locals := 21 } : Room)).room s m ([.ref x1, .int (nI j), .int p1] : List Value).toArray below meth c H locs 0 0 (MQ below (QX3_signOf G T x1 A I1 F j p1 s.heap.size) ([.ref x1, .int (nI j), .int p1] : List Value).toArray s 0 0 (va_A (cM T x1 A I1 F) s.heap.size)) (F0 m 2 ls []) := by
    intro n9
    induction n9 with
    | zero => intro i H locs ls hi hm hP hD hS hl; exact absurd (hm) (by omega)
    | succ n9 ih2 =>
      intro i H locs ls hi hm hP hD hS hl
      refine lv_aload_n hx hb dX3_signOf_2 rfl (lv_at hl 0 rfl) ?_
      refine va_get (D := G) (ci := 3) (v := .ref (A 3)) (C := RX3) (T := TX3) (N := 18) hx hb hts hiRX3 hown hK hP 0 rfl rfl 3 (by decide) (hts (.fieldLink RX3 13 "NameAuctionModel" "state" "[I") (by decide +kernel)) (fun _ h9 => h9) rfl dX3_signOf_3 ?_
      refine lv_iload_n hx hb dX3_signOf_6 rfl (lv_at hl 1 rfl) ?_
      refine giald (j := j) hx hb hK hP 2 0 rfl rfl (show (nI j : Int32) = nI j from rfl) (by omega) (by decide) dX3_signOf_7 ?_
      refine lv_iload_n hx hb dX3_signOf_8 rfl (lv_at hl 3 rfl) ?_
      refine gci (va_runS (As := [.int ((F 3) j), .int (nI i)]) (rest := []) ⟨hx, hb, hml, hown, hts⟩ (kX3_letter l G T ((F 3) j) (nI i) _) (va_cwS 2 hts gX3_signOf_X3_letter rfl rfl rfl (by decide +kernel) ⟨Nat.le_of_ble_eq_true rfl, Nat.le_of_ble_eq_true rfl⟩) ⟨gblind, gpre hE hK hP hD hS hA [] rfl rfl⟩ rfl rfl hl.1 rfl (lv_room (Nat.le_of_ble_eq_true rfl)) dX3_signOf_9 ⟨Nat.le_of_ble_eq_true rfl, Nat.le_of_ble_eq_true rfl⟩) hP hD hS hA [] rfl rfl (fun r9 H locs hw hP hD hS => ?_)
      have hP : va_P G vwCl (cM T x1 A I1 F) H := hP
      have hD : va_D (va_A (cM T x1 A I1 F) s.heap.size) (cM T x1 A I1 F) := hD
      subst hw
      refine lv_bipush (v := 32) hx hb dX3_signOf_12 (by decide) ?_
      refine lv_icmp_eq (tgt := 23) hx hb dX3_signOf_14 (by decide) (fun c14 => ?_) (fun c14 => ?_)
      · skip
        have hge : i = wLen (wIx (F 3 j)) := by
          rcases Nat.lt_or_ge i (wLen (wIx (F 3 j))) with q | q
          · exact absurd c14 (mLet_in hs q).2
          · omega
        refine lv_iload_n hx hb dX3_signOf_23 rfl (lv_at hl 2 rfl) ?_
        refine lv_if_lt (tgt := 43) hx hb dX3_signOf_24 (by decide) (fun c24 => ?_) (fun c24 => ?_)
        · skip
          refine lv_aload_n hx hb dX3_signOf_43 rfl (lv_at hl 0 rfl) ?_
          refine va_get (D := G) (ci := 3) (v := .ref (A 3)) (C := RX3) (T := TX3) (N := 18) hx hb hts hiRX3 hown hK hP 0 rfl rfl 3 (by decide) (hts (.fieldLink RX3 13 "NameAuctionModel" "state" "[I") (by decide +kernel)) (fun _ h9 => h9) rfl dX3_signOf_44 ?_
          refine lv_iload_n hx hb dX3_signOf_47 rfl (lv_at hl 1 rfl) ?_
          refine giald (j := j) hx hb hK hP 2 0 rfl rfl (show (nI j : Int32) = nI j from rfl) (by omega) (by decide) dX3_signOf_48 ?_
          refine lv_iconst (v := 2) hx hb dX3_signOf_49 (by decide) ?_
          refine lv_icmp_lt (tgt := 67) hx hb dX3_signOf_50 (by decide) (fun c50 => ?_) (fun c50 => ?_)
          · skip
            refine lv_iconst (v := 0) hx hb dX3_signOf_67 (by decide) ?_
            refine lv_istore (lv' := [(4, .int 0), (0, .ref x1), (1, .int (nI j)), (2, .int p1), (3, .int (nI i))]) hx hb dX3_signOf_68 hl (by decide) rfl (fun ls hl => ?_)
            refine lv_iload hx hb dX3_signOf_70 (lv_at hl 0 rfl) ?_
            refine lv_if_ne (tgt := 80) hx hb dX3_signOf_72 (by decide) (fun c72 => ?_) (fun c72 => ?_)
            · exact absurd c72 (by decide)
            · skip
              refine lv_bipush (v := 32) hx hb dX3_signOf_75 (by decide) ?_
              refine lv_goto (tgt := 112) hx hb dX3_signOf_77 (by decide) ?_
              exact W.zret (v := 32) hx hb hr (by decide) (fun t ht9 hW => ⟨⟨32, (), rfl, by simp only [mSgn, mSgE, ← hge, eq_true c14, eq_true c24, eq_true c50, eq_true c72, if_true, if_false], gBi ht9 (gfin hP (rfl))⟩, hS.F ht9⟩) hS.2.2 dX3_signOf_112
          · skip
            refine lv_aload_n hx hb dX3_signOf_53 rfl (lv_at hl 0 rfl) ?_
            refine va_get (D := G) (ci := 3) (v := .ref (A 4)) (C := RX3) (T := TX3) (N := 18) hx hb hts hiRX3 hown hK hP 0 rfl rfl 4 (by decide) (hts (.fieldLink RX3 16 "NameAuctionModel" "owner" "[I") (by decide +kernel)) (fun _ h9 => h9) rfl dX3_signOf_54 ?_
            refine lv_iload_n hx hb dX3_signOf_57 rfl (lv_at hl 1 rfl) ?_
            refine giald (j := j) hx hb hK hP 3 0 rfl rfl (show (nI j : Int32) = nI j from rfl) (by omega) (by decide) dX3_signOf_58 ?_
            refine lv_iconst (v := (-1)) hx hb dX3_signOf_59 (by decide) ?_
            refine lv_icmp_eq (tgt := 67) hx hb dX3_signOf_60 (by decide) (fun c60 => ?_) (fun c60 => ?_)
            · skip
              refine lv_iconst (v := 0) hx hb dX3_signOf_67 (by decide) ?_
              refine lv_istore (lv' := [(4, .int 0), (0, .ref x1), (1, .int (nI j)), (2, .int p1), (3, .int (nI i))]) hx hb dX3_signOf_68 hl (by decide) rfl (fun ls hl => ?_)
              refine lv_iload hx hb dX3_signOf_70 (lv_at hl 0 rfl) ?_
              refine lv_if_ne (tgt := 80) hx hb dX3_signOf_72 (by decide) (fun c72 => ?_) (fun c72 => ?_)
              · exact absurd c72 (by decide)
              · skip
                refine lv_bipush (v := 32) hx hb dX3_signOf_75 (by decide) ?_
                refine lv_goto (tgt := 112) hx hb dX3_signOf_77 (by decide) ?_
                exact W.zret (v := 32) hx hb hr (by decide) (fun t ht9 hW => ⟨⟨32, (), rfl, by simp only [mSgn, mSgE, ← hge, eq_true c14, eq_true c24, eq_false c50, eq_true c60, eq_true c72, if_true, if_false], gBi ht9 (gfin hP (rfl))⟩, hS.F ht9⟩) hS.2.2 dX3_signOf_112
            · skip
              refine lv_iconst (v := 1) hx hb dX3_signOf_63 (by decide) ?_
              refine lv_goto (tgt := 68) hx hb dX3_signOf_64 (by decide) ?_
              refine lv_istore (lv' := [(4, .int 1), (0, .ref x1), (1, .int (nI j)), (2, .int p1), (3, .int (nI i))]) hx hb dX3_signOf_68 hl (by decide) rfl (fun ls hl => ?_)
              refine lv_iload hx hb dX3_signOf_70 (lv_at hl 0 rfl) ?_
              refine lv_if_ne (tgt := 80) hx hb dX3_signOf_72 (by decide) (fun c72 => ?_) (fun c72 => ?_)
              · skip
                refine lv_iload_n hx hb dX3_signOf_80 rfl (lv_at hl 3 rfl) ?_
                refine lv_iload_n hx hb dX3_signOf_81 rfl (lv_at hl 4 rfl) ?_
                refine lv_icmp_ne (tgt := 90) hx hb dX3_signOf_82 (by decide) (fun c82 => ?_) (fun c82 => ?_)
                · skip
                  refine lv_iload_n hx hb dX3_signOf_90 rfl (lv_at hl 3 rfl) ?_
                  refine lv_iload_n hx hb dX3_signOf_91 rfl (lv_at hl 4 rfl) ?_
                  refine lv_iconst (v := 1) hx hb dX3_signOf_92 (by decide) ?_
                  refine lv_iadd hx hb dX3_signOf_93 ?_
                  refine gtop (y := nI (i + 1)) (nI_add i 1) ?_
                  refine lv_icmp_ne (tgt := 110) hx hb dX3_signOf_94 (by decide) (fun c94 => ?_) (fun c94 => ?_)
                  · skip
                    refine lv_bipush (v := 32) hx hb dX3_signOf_110 (by decide) ?_
                    exact W.zret (v := 32) hx hb hr (by decide) (fun t ht9 hW => ⟨⟨32, (), rfl, by simp only [mSgn, mSgE, ← hge, eq_true c14, eq_true c24, eq_false c50, eq_false c60, eq_false c72, eq_false c82, eq_false c94, if_true, if_false], gBi ht9 (gfin hP (rfl))⟩, hS.F ht9⟩) hS.2.2 dX3_signOf_112
                  · skip
                    refine lv_bipush (v := 48) hx hb dX3_signOf_97 (by decide) ?_
                    refine lv_aload_n hx hb dX3_signOf_99 rfl (lv_at hl 1 rfl) ?_
                    refine va_get (D := G) (ci := 3) (v := .ref (A 4)) (C := RX3) (T := TX3) (N := 18) hx hb hts hiRX3 hown hK hP 0 rfl rfl 4 (by decide) (hts (.fieldLink RX3 16 "NameAuctionModel" "owner" "[I") (by decide +kernel)) (fun _ h9 => h9) rfl dX3_signOf_100 ?_
                    refine lv_iload_n hx hb dX3_signOf_103 rfl (lv_at hl 2 rfl) ?_
                    refine giald (j := j) hx hb hK hP 3 0 rfl rfl (show (nI j : Int32) = nI j from rfl) (by omega) (by decide) dX3_signOf_104 ?_
                    refine lv_iadd hx hb dX3_signOf_105 ?_
                    refine lv_i2c (v := nI ((48 + F 4 j).toBitVec.toNat % 65536)) hx hb dX3_signOf_106 (pk_char _) ?_
                    refine lv_goto (tgt := 112) hx hb dX3_signOf_107 (by decide) ?_
                    exact W.zret (v := nI ((48 + F 4 j).toBitVec.toNat % 65536)) hx hb hr (pk_charN (Nat.mod_lt _ (by decide))).1 (fun t ht9 hW => ⟨⟨nI ((48 + F 4 j).toBitVec.toNat % 65536), (), rfl, by simp only [mSgn, mSgE, ← hge, eq_true c14, eq_true c24, eq_false c50, eq_false c60, eq_false c72, eq_false c82, eq_true c94, if_true, if_false], gBi ht9 (gfin hP (rfl))⟩, hS.F ht9⟩) hS.2.2 dX3_signOf_112
                · skip
                  refine lv_bipush (v := 58) hx hb dX3_signOf_85 (by decide) ?_
                  refine lv_goto (tgt := 112) hx hb dX3_signOf_87 (by decide) ?_
                  exact W.zret (v := 58) hx hb hr (by decide) (fun t ht9 hW => ⟨⟨58, (), rfl, by simp only [mSgn, mSgE, ← hge, eq_true c14, eq_true c24, eq_false c50, eq_false c60, eq_false c72, eq_true c82, if_true, if_false], gBi ht9 (gfin hP (rfl))⟩, hS.F ht9⟩) hS.2.2 dX3_signOf_112
              · exact absurd c72 (by decide)
        · skip
          refine lv_iload_n hx hb dX3_signOf_27 rfl (lv_at hl 2 rfl) ?_
          refine lv_iload_n hx hb dX3_signOf_28 rfl (lv_at hl 3 rfl) ?_
          refine lv_icmp_ge (tgt := 43) hx hb dX3_signOf_29 (by decide) (fun c29 => ?_) (fun c29 => ?_)
          · skip
            refine lv_aload_n hx hb dX3_signOf_43 rfl (lv_at hl 0 rfl) ?_
            refine va_get (D := G) (ci := 3) (v := .ref (A 3)) (C := RX3) (T := TX3) (N := 18) hx hb hts hiRX3 hown hK hP 0 rfl rfl 3 (by decide) (hts (.fieldLink RX3 13 "NameAuctionModel" "state" "[I") (by decide +kernel)) (fun _ h9 => h9) rfl dX3_signOf_44 ?_
            refine lv_iload_n hx hb dX3_signOf_47 rfl (lv_at hl 1 rfl) ?_
            refine giald (j := j) hx hb hK hP 2 0 rfl rfl (show (nI j : Int32) = nI j from rfl) (by omega) (by decide) dX3_signOf_48 ?_
            refine lv_iconst (v := 2) hx hb dX3_signOf_49 (by decide) ?_
            refine lv_icmp_lt (tgt := 67) hx hb dX3_signOf_50 (by decide) (fun c50 => ?_) (fun c50 => ?_)
            · skip
              refine lv_iconst (v := 0) hx hb dX3_signOf_67 (by decide) ?_
              refine lv_istore (lv' := [(4, .int 0), (0, .ref x1), (1, .int (nI j)), (2, .int p1), (3, .int (nI i))]) hx hb dX3_signOf_68 hl (by decide) rfl (fun ls hl => ?_)
              refine lv_iload hx hb dX3_signOf_70 (lv_at hl 0 rfl) ?_
              refine lv_if_ne (tgt := 80) hx hb dX3_signOf_72 (by decide) (fun c72 => ?_) (fun c72 => ?_)
              · exact absurd c72 (by decide)
              · skip
                refine lv_bipush (v := 32) hx hb dX3_signOf_75 (by decide) ?_
                refine lv_goto (tgt := 112) hx hb dX3_signOf_77 (by decide) ?_
                exact W.zret (v := 32) hx hb hr (by decide) (fun t ht9 hW => ⟨⟨32, (), rfl, by simp only [mSgn, mSgE, ← hge, eq_true c14, eq_false c24, eq_true c29, eq_true c50, eq_true c72, if_true, if_false], gBi ht9 (gfin hP (rfl))⟩, hS.F ht9⟩) hS.2.2 dX3_signOf_112
            · skip
              refine lv_aload_n hx hb dX3_signOf_53 rfl (lv_at hl 0 rfl) ?_
              refine va_get (D := G) (ci := 3) (v := .ref (A 4)) (C := RX3) (T := TX3) (N := 18) hx hb hts hiRX3 hown hK hP 0 rfl rfl 4 (by decide) (hts (.fieldLink RX3 16 "NameAuctionModel" "owner" "[I") (by decide +kernel)) (fun _ h9 => h9) rfl dX3_signOf_54 ?_
              refine lv_iload_n hx hb dX3_signOf_57 rfl (lv_at hl 1 rfl) ?_
              refine giald (j := j) hx hb hK hP 3 0 rfl rfl (show (nI j : Int32) = nI j from rfl) (by omega) (by decide) dX3_signOf_58 ?_
              refine lv_iconst (v := (-1)) hx hb dX3_signOf_59 (by decide) ?_
              refine lv_icmp_eq (tgt := 67) hx hb dX3_signOf_60 (by decide) (fun c60 => ?_) (fun c60 => ?_)
              · skip
                refine lv_iconst (v := 0) hx hb dX3_signOf_67 (by decide) ?_
                refine lv_istore (lv' := [(4, .int 0), (0, .ref x1), (1, .int (nI j)), (2, .int p1), (3, .int (nI i))]) hx hb dX3_signOf_68 hl (by decide) rfl (fun ls hl => ?_)
                refine lv_iload hx hb dX3_signOf_70 (lv_at hl 0 rfl) ?_
                refine lv_if_ne (tgt := 80) hx hb dX3_signOf_72 (by decide) (fun c72 => ?_) (fun c72 => ?_)
                · exact absurd c72 (by decide)
                · skip
                  refine lv_bipush (v := 32) hx hb dX3_signOf_75 (by decide) ?_
                  refine lv_goto (tgt := 112) hx hb dX3_signOf_77 (by decide) ?_
                  exact W.zret (v := 32) hx hb hr (by decide) (fun t ht9 hW => ⟨⟨32, (), rfl, by simp only [mSgn, mSgE, ← hge, eq_true c14, eq_false c24, eq_true c29, eq_false c50, eq_true c60, eq_true c72, if_true, if_false], gBi ht9 (gfin hP (rfl))⟩, hS.F ht9⟩) hS.2.2 dX3_signOf_112
              · skip
                refine lv_iconst (v := 1) hx hb dX3_signOf_63 (by decide) ?_
                refine lv_goto (tgt := 68) hx hb dX3_signOf_64 (by decide) ?_
                refine lv_istore (lv' := [(4, .int 1), (0, .ref x1), (1, .int (nI j)), (2, .int p1), (3, .int (nI i))]) hx hb dX3_signOf_68 hl (by decide) rfl (fun ls hl => ?_)
                refine lv_iload hx hb dX3_signOf_70 (lv_at hl 0 rfl) ?_
                refine lv_if_ne (tgt := 80) hx hb dX3_signOf_72 (by decide) (fun c72 => ?_) (fun c72 => ?_)
                · skip
                  refine lv_iload_n hx hb dX3_signOf_80 rfl (lv_at hl 3 rfl) ?_
                  refine lv_iload_n hx hb dX3_signOf_81 rfl (lv_at hl 4 rfl) ?_
                  refine lv_icmp_ne (tgt := 90) hx hb dX3_signOf_82 (by decide) (fun c82 => ?_) (fun c82 => ?_)
                  · skip
                    refine lv_iload_n hx hb dX3_signOf_90 rfl (lv_at hl 3 rfl) ?_
                    refine lv_iload_n hx hb dX3_signOf_91 rfl (lv_at hl 4 rfl) ?_
                    refine lv_iconst (v := 1) hx hb dX3_signOf_92 (by decide) ?_
                    refine lv_iadd hx hb dX3_signOf_93 ?_
                    refine gtop (y := nI (i + 1)) (nI_add i 1) ?_
                    refine lv_icmp_ne (tgt := 110) hx hb dX3_signOf_94 (by decide) (fun c94 => ?_) (fun c94 => ?_)
                    · skip
                      refine lv_bipush (v := 32) hx hb dX3_signOf_110 (by decide) ?_
                      exact W.zret (v := 32) hx hb hr (by decide) (fun t ht9 hW => ⟨⟨32, (), rfl, by simp only [mSgn, mSgE, ← hge, eq_true c14, eq_false c24, eq_true c29, eq_false c50, eq_false c60, eq_false c72, eq_false c82, eq_false c94, if_true, if_false], gBi ht9 (gfin hP (rfl))⟩, hS.F ht9⟩) hS.2.2 dX3_signOf_112
                    · skip
                      refine lv_bipush (v := 48) hx hb dX3_signOf_97 (by decide) ?_
                      refine lv_aload_n hx hb dX3_signOf_99 rfl (lv_at hl 1 rfl) ?_
                      refine va_get (D := G) (ci := 3) (v := .ref (A 4)) (C := RX3) (T := TX3) (N := 18) hx hb hts hiRX3 hown hK hP 0 rfl rfl 4 (by decide) (hts (.fieldLink RX3 16 "NameAuctionModel" "owner" "[I") (by decide +kernel)) (fun _ h9 => h9) rfl dX3_signOf_100 ?_
                      refine lv_iload_n hx hb dX3_signOf_103 rfl (lv_at hl 2 rfl) ?_
                      refine giald (j := j) hx hb hK hP 3 0 rfl rfl (show (nI j : Int32) = nI j from rfl) (by omega) (by decide) dX3_signOf_104 ?_
                      refine lv_iadd hx hb dX3_signOf_105 ?_
                      refine lv_i2c (v := nI ((48 + F 4 j).toBitVec.toNat % 65536)) hx hb dX3_signOf_106 (pk_char _) ?_
                      refine lv_goto (tgt := 112) hx hb dX3_signOf_107 (by decide) ?_
                      exact W.zret (v := nI ((48 + F 4 j).toBitVec.toNat % 65536)) hx hb hr (pk_charN (Nat.mod_lt _ (by decide))).1 (fun t ht9 hW => ⟨⟨nI ((48 + F 4 j).toBitVec.toNat % 65536), (), rfl, by simp only [mSgn, mSgE, ← hge, eq_true c14, eq_false c24, eq_true c29, eq_false c50, eq_false c60, eq_false c72, eq_false c82, eq_true c94, if_true, if_false], gBi ht9 (gfin hP (rfl))⟩, hS.F ht9⟩) hS.2.2 dX3_signOf_112
                  · skip
                    refine lv_bipush (v := 58) hx hb dX3_signOf_85 (by decide) ?_
                    refine lv_goto (tgt := 112) hx hb dX3_signOf_87 (by decide) ?_
                    exact W.zret (v := 58) hx hb hr (by decide) (fun t ht9 hW => ⟨⟨58, (), rfl, by simp only [mSgn, mSgE, ← hge, eq_true c14, eq_false c24, eq_true c29, eq_false c50, eq_false c60, eq_false c72, eq_true c82, if_true, if_false], gBi ht9 (gfin hP (rfl))⟩, hS.F ht9⟩) hS.2.2 dX3_signOf_112
                · exact absurd c72 (by decide)
          · skip
            refine lv_aload_n hx hb dX3_signOf_32 rfl (lv_at hl 0 rfl) ?_
            refine va_get (D := G) (ci := 3) (v := .ref (A 3)) (C := RX3) (T := TX3) (N := 18) hx hb hts hiRX3 hown hK hP 0 rfl rfl 3 (by decide) (hts (.fieldLink RX3 13 "NameAuctionModel" "state" "[I") (by decide +kernel)) (fun _ h9 => h9) rfl dX3_signOf_33 ?_
            refine lv_iload_n hx hb dX3_signOf_36 rfl (lv_at hl 1 rfl) ?_
            refine giald (j := j) hx hb hK hP 2 0 rfl rfl (show (nI j : Int32) = nI j from rfl) (by omega) (by decide) dX3_signOf_37 ?_
            refine lv_iload_n hx hb dX3_signOf_38 rfl (lv_at hl 2 rfl) ?_
            refine gci (va_runS (As := [.int ((F 3) j), .int p1]) (rest := []) ⟨hx, hb, hml, hown, hts⟩ (kX3_letter l G T ((F 3) j) p1 _) (va_cwS 2 hts gX3_signOf_X3_letter rfl rfl rfl (by decide +kernel) ⟨Nat.le_of_ble_eq_true rfl, Nat.le_of_ble_eq_true rfl⟩) ⟨gblind, gpre hE hK hP hD hS hA [] rfl rfl⟩ rfl rfl hl.1 rfl (lv_room (Nat.le_of_ble_eq_true rfl)) dX3_signOf_39 ⟨Nat.le_of_ble_eq_true rfl, Nat.le_of_ble_eq_true rfl⟩) hP hD hS hA [] rfl rfl (fun r9 H locs hw hP hD hS => ?_)
            have hP : va_P G vwCl (cM T x1 A I1 F) H := hP
            have hD : va_D (va_A (cM T x1 A I1 F) s.heap.size) (cM T x1 A I1 F) := hD
            subst hw
            exact W.zret (v := mLet ((F 3) j) p1) hx hb hr (mLet_nar _ _) (fun t ht9 hW => ⟨⟨mLet ((F 3) j) p1, (), rfl, by simp only [mSgn, mSgE, ← hge, eq_true c14, eq_false c24, eq_false c29, if_true, if_false], gBi ht9 (gfin hP (rfl))⟩, hS.F ht9⟩) hS.2.2 dX3_signOf_42
      · skip
        have hlt : i < wLen (wIx (F 3 j)) := by
          rcases Nat.lt_or_ge i (wLen (wIx (F 3 j))) with q | q
          · exact q
          · exact absurd (by rw [show i = wLen (wIx (F 3 j)) by omega]; exact mLet_out hs) c14
        refine lv_iinc (v := nI (i + 1)) (lv' := [(3, .int (nI (i + 1))), (0, .ref x1), (1, .int (nI j)), (2, .int p1)]) hx hb dX3_signOf_17 hl (k := 3) rfl (by first | rfl | exact (nI_add i 1)) (by decide) rfl (fun ls hl => ?_)
        refine lv_goto (tgt := 2) hx hb dX3_signOf_20 (by decide) ?_
        exact ih2 (i + 1) _ _ _ (by omega) (by omega) hP hD hS (lv_sub hl [1, 2, 3, 0] rfl)
  exact J2 (wLen (wIx (F 3 j)) + 1) 0 _ _ _ (by omega) (by omega) hP hD hS (lv_sub hl [1, 2, 3, 0] rfl)
abbrev PX3_sign (G : va_G) (T : Nat → ClassId) (x1 : Nat) (A : Nat → Nat) (I1 : Nat → Int32) (F : Nat → Nat → Int32) (j : Nat) (p0 p1 : Int32) (sz : Nat) : Array Value → State → Prop := gPc G T [.ref x1, .int p0, .int p1] (cM T x1 A I1 F) sz
abbrev QX3_sign (G : va_G) (T : Nat → ClassId) (x1 : Nat) (A : Nat → Nat) (I1 : Nat → Int32) (F : Nat → Nat → Int32) (j : Nat) (p0 p1 : Int32) (sz : Nat) : Array Value → State → Outcome → State → Prop := va_Qi (fun (r : Int32) (_ : Unit) => r = if (cSign F j p0 p1) = 0 then mSgn F j p1 else 32) (gB G (cM T x1 A (if (cSign F j p0 p1) = 0 then (upd I1 17 0) else upd I1 17 (w3 (cSign F j p0 p1))) (if (cSign F j p0 p1) = 0 then F else F))) (va_A (cM T x1 A I1 F) sz)
set_option maxHeartbeats 4000000 in
set_option maxRecDepth 100000 in
theorem kX3_sign (l : Launch) (G : va_G) (T : Nat → ClassId) (x1 : Nat) (A : Nat → Nat) (I1 : Nat → Int32) (F : Nat → Nat → Int32) (j : Nat) (p0 p1 : Int32) (sz : Nat) (hj : okI p0 16 = true → p0 = nI j ∧ j < 16) (hs : ∃ s9 : Nat, s9 < 6 ∧ F 3 j = nI s9) : Met l yX3_sign wsX3_sign ({ frames := 2, cells := 0, slots := 0, locals := 45 } : Room) (PX3_sign G T x1 A I1 F j p0 p1 sz) (QX3_sign G T x1 A I1 F j p0 p1 sz) 0 0 (va_A (cM T x1 A I1 F) sz) := by
  refine Met.ofW (cc := cX3_sign) (maxL := 4) (ret := (some .char)) (by decide) rfl ?_
  intro p e s m args below meth c s₁ B hml hv
  obtain ⟨rfl, hsz, hP, hK, hD0, hE⟩ := hv
  have hx := B.exec
  have hb := B.bytes
  have hr := B.returns
  have hts := atoms_spec (ws := wsX3_sign) B.pre
  have hown : s.vm.findClass RX3 = some m.cls := findClass_of_methodNamed B.named
  have hlocks := B.notSynchronized
  subst hsz
  have hD := hD0.self (sz := s.heap.size)
  have hA : ∀ q : Nat, s.heap.size ≤ q → (va_A (cM T x1 A I1 F) s.heap.size) q := fun q h => Or.inr h
  have hS : va_S (va_A (cM T x1 A I1 F) s.heap.size) s.heap s.heap [] := va_S.rf
  have hl := lv_entry ([.ref x1, .int p0, .int p1]) (n := 4) (Nat.le_of_ble_eq_true rfl)
  rw [lg_entry_eq]
  generalize (lg_sl ([.ref x1, .int p0, .int p1]) ++ List.replicate (4 - (lg_sl ([.ref x1, .int p0, .int p1])).length) Slot.unset).toArray = ls at hl ⊢
  have hl : lv_has ls 4 [(0, .ref x1), (1, .int p0), (2, .int p1)] := hl
  have hP : va_P G vwCl (cM T x1 A I1 F) s.heap := hP
  refine lv_iload_n hx hb dX3_sign_0 rfl (lv_at hl 1 rfl) ?_
  refine gci (va_runS (As := [.int p0]) (rest := []) ⟨hx, hb, hml, hown, hts⟩ (kX3_isName l G T p0 _) (va_cwS 1 hts gX3_sign_X3_isName rfl rfl rfl (by decide +kernel) ⟨Nat.le_of_ble_eq_true rfl, Nat.le_of_ble_eq_true rfl⟩) ⟨gblind, gpre hE hK hP hD hS hA [] rfl rfl⟩ rfl rfl hl.1 rfl (lv_room (Nat.le_of_ble_eq_true rfl)) dX3_sign_1 ⟨Nat.le_of_ble_eq_true rfl, Nat.le_of_ble_eq_true rfl⟩) hP hD hS hA [] rfl rfl (fun r9 H locs hw hP hD hS => ?_)
  have hP : va_P G vwCl (cM T x1 A I1 F) H := hP
  have hD : va_D (va_A (cM T x1 A I1 F) s.heap.size) (cM T x1 A I1 F) := hD
  subst hw
  refine lv_if_eq (tgt := 22) hx hb dX3_sign_4 (by decide) (fun c4 => ?_) (fun c4 => ?_)
  · skip
    have t4 : (okI p0 16) = false := bI_f c4
    refine lv_iconst (v := 0) hx hb dX3_sign_22 (by decide) ?_
    refine lv_istore_n (lv' := [(3, .int 0), (0, .ref x1), (1, .int p0), (2, .int p1)]) hx hb dX3_sign_23 rfl hl (by decide) rfl (fun ls hl => ?_)
    refine lv_aload_n hx hb dX3_sign_24 rfl (lv_at hl 1 rfl) ?_
    refine lv_iload_n hx hb dX3_sign_25 rfl (lv_at hl 0 rfl) ?_
    refine lv_if_eq (tgt := 33) hx hb dX3_sign_26 (by decide) (fun c26 => ?_) (fun c26 => ?_)
    · skip
      refine lv_iconst (v := 1) hx hb dX3_sign_33 (by decide) ?_
      refine gciT (X := ([] : va_W)) (va_runV (As := [.int 1]) (rest := []) ⟨hx, hb, hml, hown, hts⟩ (kX3_fails l G T x1 A I1 F 1 _) (cwV 1 hts gX3_sign_X3_fails rfl rfl rfl (by decide +kernel) ⟨Nat.le_of_ble_eq_true rfl, Nat.le_of_ble_eq_true rfl⟩) ⟨gblind, va_recv hK hP (ci := 3) (q0 := 0) rfl rfl, gpreT (X := ([] : va_W)) hE hK hP hD hS hA⟩ rfl rfl hl.1 rfl (lv_room (Nat.le_of_ble_eq_true rfl)) dX3_sign_34 ⟨Nat.le_of_ble_eq_true rfl, Nat.le_of_ble_eq_true rfl⟩) hP hD hS hA cM_fst (fun r9 H locs hw hP hD hS => ?_)
      have hP : va_P G vwCl (cM T x1 A (upd I1 17 1) F) H := hP
      have hD : va_D (va_A (cM T x1 A I1 F) s.heap.size) (cM T x1 A (upd I1 17 1) F) := hD
      subst hw
      refine gtop (y := 1) (by decide) ?_
      refine lv_if_eq (tgt := 45) hx hb dX3_sign_37 (by decide) (fun c37 => ?_) (fun c37 => ?_)
      · exact absurd c37 (by decide)
      · skip
        refine lv_bipush (v := 32) hx hb dX3_sign_40 (by decide) ?_
        refine lv_goto (tgt := 51) hx hb dX3_sign_42 (by decide) ?_
        exact W.zret (v := 32) hx hb hr (by decide) (fun t ht9 hW => ⟨⟨32, (), rfl, (if_neg (by simp [cSign, c26, c37, t4])).symm, gBi ht9 (gfin hP (mfinF (by simp [cSign, c26, c37, t4]) (congrArg (upd I1 17) (by simp [w3, cSign, c26, c37, t4])) rfl))⟩, hS.F ht9⟩) hS.2.2 dX3_sign_51
    · exact absurd c26 (by decide)
  · skip
    have t4 : (okI p0 16) = true := bI_t c4
    have e0 := hj t4
    obtain ⟨e0a, e0b⟩ := e0
    rw [show Value.int p0 = Value.int (nI j) from congrArg Value.int e0a] at hl
    refine lv_aload_n hx hb dX3_sign_7 rfl (lv_at hl 0 rfl) ?_
    refine lv_iload_n hx hb dX3_sign_8 rfl (lv_at hl 1 rfl) ?_
    refine lv_iload_n hx hb dX3_sign_9 rfl (lv_at hl 2 rfl) ?_
    refine gciT (X := ([] : va_W)) (va_runV (As := [.int (nI j), .int p1]) (rest := []) ⟨hx, hb, hml, hown, hts⟩ (kX3_signOf l G T x1 A I1 F j p1 _ e0b hs) (cwV 2 hts gX3_sign_X3_signOf rfl rfl rfl (by decide +kernel) ⟨Nat.le_of_ble_eq_true rfl, Nat.le_of_ble_eq_true rfl⟩) ⟨gblind, va_recv hK hP (ci := 3) (q0 := 0) rfl rfl, gpreT (X := ([] : va_W)) hE hK hP hD hS hA⟩ rfl rfl hl.1 rfl (lv_room (Nat.le_of_ble_eq_true rfl)) dX3_sign_10 ⟨Nat.le_of_ble_eq_true rfl, Nat.le_of_ble_eq_true rfl⟩) hP hD hS hA cM_fst (fun r9 H locs hw hP hD hS => ?_)
    have hP : va_P G vwCl (cM T x1 A I1 F) H := hP
    have hD : va_D (va_A (cM T x1 A I1 F) s.heap.size) (cM T x1 A I1 F) := hD
    subst hw
    refine lv_bipush (v := 32) hx hb dX3_sign_13 (by decide) ?_
    refine lv_icmp_eq (tgt := 22) hx hb dX3_sign_15 (by decide) (fun c15 => ?_) (fun c15 => ?_)
    · skip
      refine lv_iconst (v := 0) hx hb dX3_sign_22 (by decide) ?_
      refine lv_istore_n (lv' := [(3, .int 0), (0, .ref x1), (1, .int (nI j)), (2, .int p1)]) hx hb dX3_sign_23 rfl hl (by decide) rfl (fun ls hl => ?_)
      refine lv_aload_n hx hb dX3_sign_24 rfl (lv_at hl 1 rfl) ?_
      refine lv_iload_n hx hb dX3_sign_25 rfl (lv_at hl 0 rfl) ?_
      refine lv_if_eq (tgt := 33) hx hb dX3_sign_26 (by decide) (fun c26 => ?_) (fun c26 => ?_)
      · skip
        refine lv_iconst (v := 1) hx hb dX3_sign_33 (by decide) ?_
        refine gciT (X := ([] : va_W)) (va_runV (As := [.int 1]) (rest := []) ⟨hx, hb, hml, hown, hts⟩ (kX3_fails l G T x1 A I1 F 1 _) (cwV 1 hts gX3_sign_X3_fails rfl rfl rfl (by decide +kernel) ⟨Nat.le_of_ble_eq_true rfl, Nat.le_of_ble_eq_true rfl⟩) ⟨gblind, va_recv hK hP (ci := 3) (q0 := 0) rfl rfl, gpreT (X := ([] : va_W)) hE hK hP hD hS hA⟩ rfl rfl hl.1 rfl (lv_room (Nat.le_of_ble_eq_true rfl)) dX3_sign_34 ⟨Nat.le_of_ble_eq_true rfl, Nat.le_of_ble_eq_true rfl⟩) hP hD hS hA cM_fst (fun r9 H locs hw hP hD hS => ?_)
        have hP : va_P G vwCl (cM T x1 A (upd I1 17 1) F) H := hP
        have hD : va_D (va_A (cM T x1 A I1 F) s.heap.size) (cM T x1 A (upd I1 17 1) F) := hD
        subst hw
        refine gtop (y := 1) (by decide) ?_
        refine lv_if_eq (tgt := 45) hx hb dX3_sign_37 (by decide) (fun c37 => ?_) (fun c37 => ?_)
        · exact absurd c37 (by decide)
        · skip
          refine lv_bipush (v := 32) hx hb dX3_sign_40 (by decide) ?_
          refine lv_goto (tgt := 51) hx hb dX3_sign_42 (by decide) ?_
          exact W.zret (v := 32) hx hb hr (by decide) (fun t ht9 hW => ⟨⟨32, (), rfl, (if_neg (by simp [cSign, c15, c26, c37, t4])).symm, gBi ht9 (gfin hP (mfinF (by simp [cSign, c15, c26, c37, t4]) (congrArg (upd I1 17) (by simp [w3, cSign, c15, c26, c37, t4])) rfl))⟩, hS.F ht9⟩) hS.2.2 dX3_sign_51
      · exact absurd c26 (by decide)
    · skip
      refine lv_iconst (v := 1) hx hb dX3_sign_18 (by decide) ?_
      refine lv_goto (tgt := 23) hx hb dX3_sign_19 (by decide) ?_
      refine lv_istore_n (lv' := [(3, .int 1), (0, .ref x1), (1, .int (nI j)), (2, .int p1)]) hx hb dX3_sign_23 rfl hl (by decide) rfl (fun ls hl => ?_)
      refine lv_aload_n hx hb dX3_sign_24 rfl (lv_at hl 1 rfl) ?_
      refine lv_iload_n hx hb dX3_sign_25 rfl (lv_at hl 0 rfl) ?_
      refine lv_if_eq (tgt := 33) hx hb dX3_sign_26 (by decide) (fun c26 => ?_) (fun c26 => ?_)
      · exact absurd c26 (by decide)
      · skip
        refine lv_iconst (v := 0) hx hb dX3_sign_29 (by decide) ?_
        refine lv_goto (tgt := 34) hx hb dX3_sign_30 (by decide) ?_
        refine gciT (X := ([] : va_W)) (va_runV (As := [.int 0]) (rest := []) ⟨hx, hb, hml, hown, hts⟩ (kX3_fails l G T x1 A I1 F 0 _) (cwV 1 hts gX3_sign_X3_fails rfl rfl rfl (by decide +kernel) ⟨Nat.le_of_ble_eq_true rfl, Nat.le_of_ble_eq_true rfl⟩) ⟨gblind, va_recv hK hP (ci := 3) (q0 := 0) rfl rfl, gpreT (X := ([] : va_W)) hE hK hP hD hS hA⟩ rfl rfl hl.1 rfl (lv_room (Nat.le_of_ble_eq_true rfl)) dX3_sign_34 ⟨Nat.le_of_ble_eq_true rfl, Nat.le_of_ble_eq_true rfl⟩) hP hD hS hA cM_fst (fun r9 H locs hw hP hD hS => ?_)
        have hP : va_P G vwCl (cM T x1 A (upd I1 17 0) F) H := hP
        have hD : va_D (va_A (cM T x1 A I1 F) s.heap.size) (cM T x1 A (upd I1 17 0) F) := hD
        subst hw
        refine gtop (y := 0) (by decide) ?_
        refine lv_if_eq (tgt := 45) hx hb dX3_sign_37 (by decide) (fun c37 => ?_) (fun c37 => ?_)
        · skip
          refine lv_aload_n hx hb dX3_sign_45 rfl (lv_at hl 1 rfl) ?_
          refine lv_iload_n hx hb dX3_sign_46 rfl (lv_at hl 2 rfl) ?_
          refine lv_iload_n hx hb dX3_sign_47 rfl (lv_at hl 3 rfl) ?_
          refine gciT (X := ([] : va_W)) (va_runV (As := [.int (nI j), .int p1]) (rest := []) ⟨hx, hb, hml, hown, hts⟩ (kX3_signOf l G T x1 A (upd I1 17 0) F j p1 _ e0b hs) (cwV 2 hts gX3_sign_X3_signOf rfl rfl rfl (by decide +kernel) ⟨Nat.le_of_ble_eq_true rfl, Nat.le_of_ble_eq_true rfl⟩) ⟨gblind, va_recv hK hP (ci := 3) (q0 := 0) rfl rfl, gpreT (X := ([] : va_W)) hE hK hP hD hS hA⟩ rfl rfl hl.1 rfl (lv_room (Nat.le_of_ble_eq_true rfl)) dX3_sign_48 ⟨Nat.le_of_ble_eq_true rfl, Nat.le_of_ble_eq_true rfl⟩) hP hD hS hA cM_fst (fun r9 H locs hw hP hD hS => ?_)
          have hP : va_P G vwCl (cM T x1 A (upd I1 17 0) F) H := hP
          have hD : va_D (va_A (cM T x1 A I1 F) s.heap.size) (cM T x1 A (upd I1 17 0) F) := hD
          subst hw
          exact W.zret (v := mSgn F j p1) hx hb hr (mSgn_nar _ _ _) (fun t ht9 hW => ⟨⟨mSgn F j p1, (), rfl, (if_pos (show (cSign F j p0 p1) = 0 by simp [cSign, c15, c26, c37, t4])).symm, gBi ht9 (gfin hP (mfinT (by simp [cSign, c15, c26, c37, t4]) rfl rfl))⟩, hS.F ht9⟩) hS.2.2 dX3_sign_51
        · exact absurd c37 (by decide)
