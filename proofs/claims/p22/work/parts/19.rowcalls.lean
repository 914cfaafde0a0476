/-! THE LAW'S METHODS: the script, the rows -/
def lHas (t c : Nat → Int32) (j : Nat) : Int32 := bI (decide (t j = 2 ∨ t j = 3 ∨ (t j = 5 ∧ c (32 + j) = 0)))
abbrev PL_part (G : va_G) (T : Nat → ClassId) (WW : va_W) (b L : Nat) (xs : Nat → Int32) (k n : Nat) (sz : Nat) : Array Value → State → Prop := gPs G T b L xs [.ref b, .int (nI k), .int (nI n)] WW sz
abbrev QL_part (G : va_G) (T : Nat → ClassId) (WW : va_W) (b L : Nat) (xs : Nat → Int32) (k n : Nat) (sz : Nat) : Array Value → State → Outcome → State → Prop := va_Qi (fun (r : Int32) (u : Nat) => r = nI u ∧ u < n) (fun (u : Nat) (w9 : State) => va_P G vwCl (WW) w9.heap) (va_A WW sz)
set_option maxHeartbeats 4000000 in
set_option maxRecDepth 100000 in
theorem kL_part (l : Launch) (G : va_G) (T : Nat → ClassId) (WW : va_W) (b L : Nat) (xs : Nat → Int32) (k n : Nat) (sz : Nat) (hk : k < 1000) (hn0 : 0 < n) (hn : n < 2 ^ 31) (hL : L ≤ 260) : Met l yL_part wsL_part ({ frames := 0, cells := 0, slots := 0, locals := 0 } : Room) (PL_part G T WW b L xs k n sz) (QL_part G T WW b L xs k n sz) 0 0 (va_A WW sz) := by
  refine Met.ofW (cc := cL_part) (maxL := 4) (ret := (some .int)) (by decide) rfl ?_
  intro p e s m args below meth c s₁ B hml hv
  obtain ⟨rfl, ⟨hsz, hP, hK, hD0, hE⟩, hX, hbl, hbA⟩ := hv
  have hx := B.exec
  have hb := B.bytes
  have hr := B.returns
  have hts := atoms_spec (ws := wsL_part) B.pre
  have hown : s.vm.findClass RL = some m.cls := findClass_of_methodNamed B.named
  have hlocks := B.notSynchronized
  subst hsz
  have hD := hD0.self (sz := s.heap.size)
  have hA : ∀ q : Nat, s.heap.size ≤ q → (va_A WW s.heap.size) q := fun q h => Or.inr h
  have hS : va_S (va_A WW s.heap.size) s.heap s.heap [] := va_S.rf
  have hl := lv_entry ([.ref b, .int (nI k), .int (nI n)]) (n := 4) (Nat.le_of_ble_eq_true rfl)
  rw [lg_entry_eq]
  generalize (lg_sl ([.ref b, .int (nI k), .int (nI n)]) ++ List.replicate (4 - (lg_sl ([.ref b, .int (nI k), .int (nI n)])).length) Slot.unset).toArray = ls at hl ⊢
  have hl : lv_has ls 4 [(0, .ref b), (1, .int (nI k)), (2, .int (nI n))] := hl
  have hP : va_P G vwCl (WW) s.heap := hP
  refine lv_iload_n hx hb dL_part_0 rfl (lv_at hl 1 rfl) ?_
  refine lv_aload_n hx hb dL_part_1 rfl (lv_at hl 0 rfl) ?_
  refine va_slen hx hb hX hbl hbA hS dL_part_2 ?_
  refine gtop (y := nI L) rfl ?_
  refine lv_icmp_ge (tgt := 12) hx hb dL_part_3 (by decide) (fun c3 => ?_) (fun c3 => ?_)
  · skip
    refine lv_sipush (v := 443) hx hb dL_part_12 (by decide) ?_
    refine lv_iload_n hx hb dL_part_15 rfl (lv_at hl 1 rfl) ?_
    refine lv_imul hx hb dL_part_16 ?_
    refine gtop (y := nI (443 * k)) (pk_mul 443 k) ?_
    refine lv_sipush (v := 311) hx hb dL_part_17 (by decide) ?_
    refine lv_iload_n hx hb dL_part_20 rfl (lv_at hl 1 rfl) ?_
    refine lv_imul hx hb dL_part_21 ?_
    refine gtop (y := nI (311 * k)) (pk_mul 311 k) ?_
    refine lv_iload_n hx hb dL_part_22 rfl (lv_at hl 1 rfl) ?_
    refine lv_imul hx hb dL_part_23 ?_
    refine gtop (y := nI ((311 * k) * k)) (pk_mul (311 * k) k) ?_
    refine lv_iadd hx hb dL_part_24 ?_
    refine gtop (y := nI ((443 * k) + ((311 * k) * k))) (nI_add (443 * k) ((311 * k) * k)) ?_
    refine lv_istore_n (lv' := [(3, .int (nI ((443 * k) + ((311 * k) * k)))), (0, .ref b), (1, .int (nI k)), (2, .int (nI n))]) hx hb dL_part_25 rfl hl (by decide) rfl (fun ls hl => ?_)
    refine lv_iload_n hx hb dL_part_26 rfl (lv_at hl 0 rfl) ?_
    refine lv_ldc (v := 2147483647) hx hb hown (hts (.constant RL 7 2147483647) (by decide +kernel)) dL_part_27 ?_
    refine lv_iand hx hb dL_part_29 ?_
    refine gtop (y := nI ((nI ((443 * k) + ((311 * k) * k))).toBitVec.toNat % 2 ^ 31)) (pk_and _ 31 (by decide)) ?_
    refine lv_iload_n hx hb dL_part_30 rfl (lv_at hl 3 rfl) ?_
    refine lv_irem hx hb dL_part_31 (nI_ne0 hn0 hn) ?_
    refine gtop (y := nI (((nI ((443 * k) + ((311 * k) * k))).toBitVec.toNat % 2 ^ 31) % n)) (pk_rem (d := n) (Nat.mod_lt _ (by decide)) hn0 hn) ?_
    exact W.iret (v := nI (((nI ((443 * k) + ((311 * k) * k))).toBitVec.toNat % 2 ^ 31) % n)) hx hb hr (fun w9 ht9 hW => ⟨⟨nI (((nI ((443 * k) + ((311 * k) * k))).toBitVec.toNat % 2 ^ 31) % n), (((nI ((443 * k) + ((311 * k) * k))).toBitVec.toNat % 2 ^ 31) % n), rfl, ⟨rfl, Nat.mod_lt _ hn0⟩, gBi ht9 hP⟩, hS.F ht9⟩) hS.2.2 dL_part_32
  · skip
    have hlt : k < L := by
      rcases Nat.lt_or_ge k L with q | q
      · exact q
      · exact absurd (nI_le q (by omega)) c3
    refine lv_aload_n hx hb dL_part_6 rfl (lv_at hl 0 rfl) ?_
    refine lv_iload_n hx hb dL_part_7 rfl (lv_at hl 1 rfl) ?_
    refine gsld (v := xs k) hx hb hX hbl hbA hS hlt (by omega) rfl dL_part_8 ?_
    refine lv_goto (tgt := 25) hx hb dL_part_9 (by decide) ?_
    refine lv_istore_n (lv' := [(3, .int (xs k)), (0, .ref b), (1, .int (nI k)), (2, .int (nI n))]) hx hb dL_part_25 rfl hl (by decide) rfl (fun ls hl => ?_)
    refine lv_iload_n hx hb dL_part_26 rfl (lv_at hl 0 rfl) ?_
    refine lv_ldc (v := 2147483647) hx hb hown (hts (.constant RL 7 2147483647) (by decide +kernel)) dL_part_27 ?_
    refine lv_iand hx hb dL_part_29 ?_
    refine gtop (y := nI ((xs k).toBitVec.toNat % 2 ^ 31)) (pk_and _ 31 (by decide)) ?_
    refine lv_iload_n hx hb dL_part_30 rfl (lv_at hl 3 rfl) ?_
    refine lv_irem hx hb dL_part_31 (nI_ne0 hn0 hn) ?_
    refine gtop (y := nI (((xs k).toBitVec.toNat % 2 ^ 31) % n)) (pk_rem (d := n) (Nat.mod_lt _ (by decide)) hn0 hn) ?_
    exact W.iret (v := nI (((xs k).toBitVec.toNat % 2 ^ 31) % n)) hx hb hr (fun w9 ht9 hW => ⟨⟨nI (((xs k).toBitVec.toNat % 2 ^ 31) % n), (((xs k).toBitVec.toNat % 2 ^ 31) % n), rfl, ⟨rfl, Nat.mod_lt _ hn0⟩, gBi ht9 hP⟩, hS.F ht9⟩) hS.2.2 dL_part_32
abbrev PL_hasRecord (G : va_G) (T : Nat → ClassId) (Ad : Nat → Nat) (AF : Nat → Nat → Nat) (D mny : Nat → Int32) (N f g : Nat → Nat → Int32) (rk rf rg rh : Nat → Nat → Int32) (ta ca fa ga : Nat → Int32) (j : Nat) (sz : Nat) : Array Value → State → Prop := gPc G T [.ref (Ad 5), .ref (Ad 6), .int (nI j)] (wW T Ad AF ta ca fa ga D mny N f g rk rf rg rh) sz
abbrev QL_hasRecord (G : va_G) (T : Nat → ClassId) (Ad : Nat → Nat) (AF : Nat → Nat → Nat) (D mny : Nat → Int32) (N f g : Nat → Nat → Int32) (rk rf rg rh : Nat → Nat → Int32) (ta ca fa ga : Nat → Int32) (j : Nat) (sz : Nat) : Array Value → State → Outcome → State → Prop := va_Qi (fun (r : Int32) (_ : Unit) => r = lHas ta ca j) (gB G (wW T Ad AF ta ca fa ga D mny N f g rk rf rg rh)) (va_A (wW T Ad AF ta ca fa ga D mny N f g rk rf rg rh) sz)
set_option maxHeartbeats 4000000 in
set_option maxRecDepth 100000 in
theorem kL_hasRecord (l : Launch) (G : va_G) (T : Nat → ClassId) (Ad : Nat → Nat) (AF : Nat → Nat → Nat) (D mny : Nat → Int32) (N f g : Nat → Nat → Int32) (rk rf rg rh : Nat → Nat → Int32) (ta ca fa ga : Nat → Int32) (j : Nat) (sz : Nat) (hj16 : j < 16) : Met l yL_hasRecord wsL_hasRecord ({ frames := 0, cells := 0, slots := 0, locals := 0 } : Room) (PL_hasRecord G T Ad AF D mny N f g rk rf rg rh ta ca fa ga j sz) (QL_hasRecord G T Ad AF D mny N f g rk rf rg rh ta ca fa ga j sz) 0 0 (va_A (wW T Ad AF ta ca fa ga D mny N f g rk rf rg rh) sz) := by
  refine Met.ofW (cc := cL_hasRecord) (maxL := 3) (ret := (some .boolean)) (by decide) rfl ?_
  intro p e s m args below meth c s₁ B hml hv
  obtain ⟨rfl, hsz, hP, hK, hD0, hE⟩ := hv
  have hx := B.exec
  have hb := B.bytes
  have hr := B.returns
  have hts := atoms_spec (ws := wsL_hasRecord) B.pre
  have hown : s.vm.findClass RL = some m.cls := findClass_of_methodNamed B.named
  have hlocks := B.notSynchronized
  subst hsz
  have hD := hD0.self (sz := s.heap.size)
  have hA : ∀ q : Nat, s.heap.size ≤ q → (va_A (wW T Ad AF ta ca fa ga D mny N f g rk rf rg rh) s.heap.size) q := fun q h => Or.inr h
  have hS : va_S (va_A (wW T Ad AF ta ca fa ga D mny N f g rk rf rg rh) s.heap.size) s.heap s.heap [] := va_S.rf
  have hl := lv_entry ([.ref (Ad 5), .ref (Ad 6), .int (nI j)]) (n := 3) (Nat.le_of_ble_eq_true rfl)
  rw [lg_entry_eq]
  generalize (lg_sl ([.ref (Ad 5), .ref (Ad 6), .int (nI j)]) ++ List.replicate (3 - (lg_sl ([.ref (Ad 5), .ref (Ad 6), .int (nI j)])).length) Slot.unset).toArray = ls at hl ⊢
  have hl : lv_has ls 3 [(0, .ref (Ad 5)), (1, .ref (Ad 6)), (2, .int (nI j))] := hl
  have hP : va_P G vwCl (wW T Ad AF ta ca fa ga D mny N f g rk rf rg rh) s.heap := hP
  refine lv_aload_n hx hb dL_hasRecord_0 rfl (lv_at hl 0 rfl) ?_
  refine lv_iload_n hx hb dL_hasRecord_1 rfl (lv_at hl 2 rfl) ?_
  refine giald (j := j) hx hb hK hP 0 0 rfl rfl (show (nI j : Int32) = nI j from rfl) (by omega) (by decide) dL_hasRecord_2 ?_
  refine lv_iconst (v := 2) hx hb dL_hasRecord_3 (by decide) ?_
  refine lv_icmp_eq (tgt := 30) hx hb dL_hasRecord_4 (by decide) (fun c4 => ?_) (fun c4 => ?_)
  · skip
    refine lv_iconst (v := 1) hx hb dL_hasRecord_30 (by decide) ?_
    refine lv_goto (tgt := 35) hx hb dL_hasRecord_31 (by decide) ?_
    exact W.zret (v := 1) hx hb hr (by decide) (fun t ht9 hW => ⟨⟨1, (), rfl, by simp [lHas, bI, c4], gBi ht9 (gfin hP (rfl))⟩, hS.F ht9⟩) hS.2.2 dL_hasRecord_35
  · skip
    refine lv_aload_n hx hb dL_hasRecord_7 rfl (lv_at hl 0 rfl) ?_
    refine lv_iload_n hx hb dL_hasRecord_8 rfl (lv_at hl 2 rfl) ?_
    refine giald (j := j) hx hb hK hP 0 0 rfl rfl (show (nI j : Int32) = nI j from rfl) (by omega) (by decide) dL_hasRecord_9 ?_
    refine lv_iconst (v := 3) hx hb dL_hasRecord_10 (by decide) ?_
    refine lv_icmp_eq (tgt := 30) hx hb dL_hasRecord_11 (by decide) (fun c11 => ?_) (fun c11 => ?_)
    · skip
      refine lv_iconst (v := 1) hx hb dL_hasRecord_30 (by decide) ?_
      refine lv_goto (tgt := 35) hx hb dL_hasRecord_31 (by decide) ?_
      exact W.zret (v := 1) hx hb hr (by decide) (fun t ht9 hW => ⟨⟨1, (), rfl, by simp [lHas, bI, c4, c11], gBi ht9 (gfin hP (rfl))⟩, hS.F ht9⟩) hS.2.2 dL_hasRecord_35
    · skip
      refine lv_aload_n hx hb dL_hasRecord_14 rfl (lv_at hl 0 rfl) ?_
      refine lv_iload_n hx hb dL_hasRecord_15 rfl (lv_at hl 2 rfl) ?_
      refine giald (j := j) hx hb hK hP 0 0 rfl rfl (show (nI j : Int32) = nI j from rfl) (by omega) (by decide) dL_hasRecord_16 ?_
      refine lv_iconst (v := 5) hx hb dL_hasRecord_17 (by decide) ?_
      refine lv_icmp_ne (tgt := 34) hx hb dL_hasRecord_18 (by decide) (fun c18 => ?_) (fun c18 => ?_)
      · skip
        refine lv_iconst (v := 0) hx hb dL_hasRecord_34 (by decide) ?_
        exact W.zret (v := 0) hx hb hr (by decide) (fun t ht9 hW => ⟨⟨0, (), rfl, by simp [lHas, bI, c4, c11, c18], gBi ht9 (gfin hP (rfl))⟩, hS.F ht9⟩) hS.2.2 dL_hasRecord_35
      · skip
        refine lv_aload_n hx hb dL_hasRecord_21 rfl (lv_at hl 1 rfl) ?_
        refine lv_bipush (v := 32) hx hb dL_hasRecord_22 (by decide) ?_
        refine lv_iload_n hx hb dL_hasRecord_24 rfl (lv_at hl 2 rfl) ?_
        refine lv_iadd hx hb dL_hasRecord_25 ?_
        refine gtop (y := nI (32 + j)) (nI_add 32 j) ?_
        refine giald (j := (32 + j)) hx hb hK hP 1 0 rfl rfl (show (nI (32 + j) : Int32) = nI (32 + j) from rfl) (by omega) (by decide) dL_hasRecord_26 ?_
        refine lv_if_ne (tgt := 34) hx hb dL_hasRecord_27 (by decide) (fun c27 => ?_) (fun c27 => ?_)
        · skip
          refine lv_iconst (v := 0) hx hb dL_hasRecord_34 (by decide) ?_
          exact W.zret (v := 0) hx hb hr (by decide) (fun t ht9 hW => ⟨⟨0, (), rfl, by simp [lHas, bI, c4, c11, c18, c27], gBi ht9 (gfin hP (rfl))⟩, hS.F ht9⟩) hS.2.2 dL_hasRecord_35
        · skip
          refine lv_iconst (v := 1) hx hb dL_hasRecord_30 (by decide) ?_
          refine lv_goto (tgt := 35) hx hb dL_hasRecord_31 (by decide) ?_
          exact W.zret (v := 1) hx hb hr (by decide) (fun t ht9 hW => ⟨⟨1, (), rfl, by simp [lHas, bI, c4, c11, c18, c27], gBi ht9 (gfin hP (rfl))⟩, hS.F ht9⟩) hS.2.2 dL_hasRecord_35
abbrev PL_sees (G : va_G) (T : Nat → ClassId) (Ad : Nat → Nat) (AF : Nat → Nat → Nat) (D mny : Nat → Int32) (N f g : Nat → Nat → Int32) (rk rf rg rh : Nat → Nat → Int32) (ta ca fa ga : Nat → Int32) (j : Nat) (sz : Nat) : Array Value → State → Prop := gPc G T [.ref (Ad 1), .ref (Ad 5), .int (nI j)] (wW T Ad AF ta ca fa ga D mny N f g rk rf rg rh) sz
abbrev QL_sees (G : va_G) (T : Nat → ClassId) (Ad : Nat → Nat) (AF : Nat → Nat → Nat) (D mny : Nat → Int32) (N f g : Nat → Nat → Int32) (rk rf rg rh : Nat → Nat → Int32) (ta ca fa ga : Nat → Int32) (j : Nat) (sz : Nat) : Array Value → State → Outcome → State → Prop := va_Qv (fun _ : Unit => True) (gB G (wW T Ad AF (upd (upd (upd ta j (N j 0)) (16 + j) (N j 1)) (32 + j) (sDay (N j))) ca fa ga D mny N f g rk rf rg rh)) (va_A (wW T Ad AF ta ca fa ga D mny N f g rk rf rg rh) sz)
set_option maxHeartbeats 4000000 in
set_option maxRecDepth 100000 in
theorem kL_sees (l : Launch) (hl0 : l.stackTraces = false) (G : va_G) (T : Nat → ClassId) (Ad : Nat → Nat) (AF : Nat → Nat → Nat) (D mny : Nat → Int32) (N f g : Nat → Nat → Int32) (rk rf rg rh : Nat → Nat → Int32) (ta ca fa ga : Nat → Int32) (j : Nat) (sz : Nat) (hj16 : j < 16) : Met l yL_sees wsL_sees ({ frames := 2, cells := 3, slots := 18, locals := 42 } : Room) (PL_sees G T Ad AF D mny N f g rk rf rg rh ta ca fa ga j sz) (QL_sees G T Ad AF D mny N f g rk rf rg rh ta ca fa ga j sz) 3 18 (va_A (wW T Ad AF ta ca fa ga D mny N f g rk rf rg rh) sz) := by
  refine Met.ofW (cc := cL_sees) (maxL := 3) (ret := none) (by decide) rfl ?_
  intro p e s m args below meth c s₁ B hml hv
  obtain ⟨rfl, hsz, hP, hK, hD0, hE⟩ := hv
  have hx := B.exec
  have hb := B.bytes
  have hr := B.returns
  have hts := atoms_spec (ws := wsL_sees) B.pre
  have hown : s.vm.findClass RL = some m.cls := findClass_of_methodNamed B.named
  have hlocks := B.notSynchronized
  subst hsz
  have hD := hD0.self (sz := s.heap.size)
  have hA : ∀ q : Nat, s.heap.size ≤ q → (va_A (wW T Ad AF ta ca fa ga D mny N f g rk rf rg rh) s.heap.size) q := fun q h => Or.inr h
  have hS : va_S (va_A (wW T Ad AF ta ca fa ga D mny N f g rk rf rg rh) s.heap.size) s.heap s.heap [] := va_S.rf
  have hl := lv_entry ([.ref (Ad 1), .ref (Ad 5), .int (nI j)]) (n := 3) (Nat.le_of_ble_eq_true rfl)
  rw [lg_entry_eq]
  generalize (lg_sl ([.ref (Ad 1), .ref (Ad 5), .int (nI j)]) ++ List.replicate (3 - (lg_sl ([.ref (Ad 1), .ref (Ad 5), .int (nI j)])).length) Slot.unset).toArray = ls at hl ⊢
  have hl : lv_has ls 3 [(0, .ref (Ad 1)), (1, .ref (Ad 5)), (2, .int (nI j))] := hl
  have hP : va_P G vwCl (wW T Ad AF ta ca fa ga D mny N f g rk rf rg rh) s.heap := hP
  refine lv_aload_n hx hb dL_sees_0 rfl (lv_at hl 1 rfl) ?_
  refine lv_iload_n hx hb dL_sees_1 rfl (lv_at hl 2 rfl) ?_
  refine lv_aload_n hx hb dL_sees_2 rfl (lv_at hl 0 rfl) ?_
  refine lv_iload_n hx hb dL_sees_3 rfl (lv_at hl 2 rfl) ?_
  refine gciT (X := wX4 T Ad ta ca fa ga) (va_runV (As := [.int (nI j)]) (rest := [.int (nI j), .ref (Ad 5)]) ⟨hx, hb, hml, hown, hts⟩ (cX2_state_c l hl0 G T Ad AF D mny N f g rk rf rg rh j _ (by omega)) (cwV 1 hts gL_sees_X2_state rfl rfl rfl (by decide +kernel) ⟨Nat.le_of_ble_eq_true rfl, Nat.le_of_ble_eq_true rfl⟩) ⟨gblind, va_recv hK hP (ci := 2) (q0 := 4) rfl rfl, gpreT (X := wX4 T Ad ta ca fa ga) hE hK hP hD hS hA⟩ rfl rfl hl.1 rfl (lv_room (Nat.le_of_ble_eq_true rfl)) dL_sees_4 ⟨Nat.le_of_ble_eq_true rfl, Nat.le_of_ble_eq_true rfl⟩) hP hD hS hA wC_fst (fun r9 H locs hw hP hD hS => ?_)
  have hP : va_P G vwCl (wW T Ad AF ta ca fa ga D mny N f g rk rf rg rh) H := hP
  have hD : va_D (va_A (wW T Ad AF ta ca fa ga D mny N f g rk rf rg rh) s.heap.size) (wW T Ad AF ta ca fa ga D mny N f g rk rf rg rh) := hD
  subst hw
  refine giast (j := j) hx hb hK hP hD hS 0 0 rfl rfl (show (nI j : Int32) = nI j from rfl) (by omega) (by decide) dL_sees_7 (fun H locs hP hD hS => ?_)
  have hP : va_P G vwCl (wW T Ad AF (upd ta j (N j 0)) ca fa ga D mny N f g rk rf rg rh) H := hP
  have hD : va_D (va_A (wW T Ad AF ta ca fa ga D mny N f g rk rf rg rh) s.heap.size) (wW T Ad AF (upd ta j (N j 0)) ca fa ga D mny N f g rk rf rg rh) := hD
  refine lv_aload_n hx hb dL_sees_8 rfl (lv_at hl 1 rfl) ?_
  refine lv_bipush (v := 16) hx hb dL_sees_9 (by decide) ?_
  refine lv_iload_n hx hb dL_sees_11 rfl (lv_at hl 2 rfl) ?_
  refine lv_iadd hx hb dL_sees_12 ?_
  refine gtop (y := nI (16 + j)) (nI_add 16 j) ?_
  refine lv_aload_n hx hb dL_sees_13 rfl (lv_at hl 0 rfl) ?_
  refine lv_iload_n hx hb dL_sees_14 rfl (lv_at hl 2 rfl) ?_
  refine gciT (X := wX4 T Ad (upd ta j (N j 0)) ca fa ga) (va_runV (As := [.int (nI j)]) (rest := [.int (nI (16 + j)), .ref (Ad 5)]) ⟨hx, hb, hml, hown, hts⟩ (cX2_owner_c l hl0 G T Ad AF D mny N f g rk rf rg rh j _ (by omega)) (cwV 1 hts gL_sees_X2_owner rfl rfl rfl (by decide +kernel) ⟨Nat.le_of_ble_eq_true rfl, Nat.le_of_ble_eq_true rfl⟩) ⟨gblind, va_recv hK hP (ci := 2) (q0 := 4) rfl rfl, gpreT (X := wX4 T Ad (upd ta j (N j 0)) ca fa ga) hE hK hP hD hS hA⟩ rfl rfl hl.1 rfl (lv_room (Nat.le_of_ble_eq_true rfl)) dL_sees_15 ⟨Nat.le_of_ble_eq_true rfl, Nat.le_of_ble_eq_true rfl⟩) hP hD hS hA wC_fst (fun r9 H locs hw hP hD hS => ?_)
  have hP : va_P G vwCl (wW T Ad AF (upd ta j (N j 0)) ca fa ga D mny N f g rk rf rg rh) H := hP
  have hD : va_D (va_A (wW T Ad AF ta ca fa ga D mny N f g rk rf rg rh) s.heap.size) (wW T Ad AF (upd ta j (N j 0)) ca fa ga D mny N f g rk rf rg rh) := hD
  subst hw
  refine giast (j := (16 + j)) hx hb hK hP hD hS 0 0 rfl rfl (show (nI (16 + j) : Int32) = nI (16 + j) from rfl) (by omega) (by decide) dL_sees_18 (fun H locs hP hD hS => ?_)
  have hP : va_P G vwCl (wW T Ad AF (upd (upd ta j (N j 0)) (16 + j) (N j 1)) ca fa ga D mny N f g rk rf rg rh) H := hP
  have hD : va_D (va_A (wW T Ad AF ta ca fa ga D mny N f g rk rf rg rh) s.heap.size) (wW T Ad AF (upd (upd ta j (N j 0)) (16 + j) (N j 1)) ca fa ga D mny N f g rk rf rg rh) := hD
  refine lv_aload_n hx hb dL_sees_19 rfl (lv_at hl 1 rfl) ?_
  refine lv_bipush (v := 32) hx hb dL_sees_20 (by decide) ?_
  refine lv_iload_n hx hb dL_sees_22 rfl (lv_at hl 2 rfl) ?_
  refine lv_iadd hx hb dL_sees_23 ?_
  refine gtop (y := nI (32 + j)) (nI_add 32 j) ?_
  refine lv_aload_n hx hb dL_sees_24 rfl (lv_at hl 0 rfl) ?_
  refine lv_iload_n hx hb dL_sees_25 rfl (lv_at hl 2 rfl) ?_
  refine gciT (X := wX4 T Ad (upd (upd ta j (N j 0)) (16 + j) (N j 1)) ca fa ga) (va_runV (As := [.int (nI j)]) (rest := [.int (nI (32 + j)), .ref (Ad 5)]) ⟨hx, hb, hml, hown, hts⟩ (cX2_next_c l hl0 G T Ad AF D mny N f g rk rf rg rh j _ (by omega)) (cwV 1 hts gL_sees_X2_next rfl rfl rfl (by decide +kernel) ⟨Nat.le_of_ble_eq_true rfl, Nat.le_of_ble_eq_true rfl⟩) ⟨gblind, va_recv hK hP (ci := 2) (q0 := 4) rfl rfl, gpreT (X := wX4 T Ad (upd (upd ta j (N j 0)) (16 + j) (N j 1)) ca fa ga) hE hK hP hD hS hA⟩ rfl rfl hl.1 rfl (lv_room (Nat.le_of_ble_eq_true rfl)) dL_sees_26 ⟨Nat.le_of_ble_eq_true rfl, Nat.le_of_ble_eq_true rfl⟩) hP hD hS hA wC_fst (fun r9 H locs hw hP hD hS => ?_)
  have hP : va_P G vwCl (wW T Ad AF (upd (upd ta j (N j 0)) (16 + j) (N j 1)) ca fa ga D mny N f g rk rf rg rh) H := hP
  have hD : va_D (va_A (wW T Ad AF ta ca fa ga D mny N f g rk rf rg rh) s.heap.size) (wW T Ad AF (upd (upd ta j (N j 0)) (16 + j) (N j 1)) ca fa ga D mny N f g rk rf rg rh) := hD
  subst hw
  refine giast (j := (32 + j)) hx hb hK hP hD hS 0 0 rfl rfl (show (nI (32 + j) : Int32) = nI (32 + j) from rfl) (by omega) (by decide) dL_sees_29 (fun H locs hP hD hS => ?_)
  have hP : va_P G vwCl (wW T Ad AF (upd (upd (upd ta j (N j 0)) (16 + j) (N j 1)) (32 + j) (sDay (N j))) ca fa ga D mny N f g rk rf rg rh) H := hP
  have hD : va_D (va_A (wW T Ad AF ta ca fa ga D mny N f g rk rf rg rh) s.heap.size) (wW T Ad AF (upd (upd (upd ta j (N j 0)) (16 + j) (N j 1)) (32 + j) (sDay (N j))) ca fa ga D mny N f g rk rf rg rh) := hD
  refine W.widen (k := 3) (n := 18) (Nat.le_of_ble_eq_true rfl) (Nat.le_of_ble_eq_true rfl) ?_
  exact W.vret hx hb hr (fun t ht9 hW => ⟨⟨(), rfl, trivial, gBi ht9 (gfin hP (rfl))⟩, hS.F ht9⟩) hS.2.2 dL_sees_30
