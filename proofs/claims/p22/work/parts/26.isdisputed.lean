/-! THE LAW'S METHODS: isDisputed -/
theorem NI.lo {d : Nat} {N f : Nat → Int32} (h : NI d N f) (h0 : N 0 ≤ 0) : N 0 = 0 := by
  obtain ⟨s, hs, e⟩ := h.st
  rcases Nat.eq_zero_or_pos s with z | z
  · subst z; exact e
  · exact absurd h0 (by rw [e]; exact nI_nle z (by omega))
theorem NI.hi {d : Nat} {N f : Nat → Int32} (h : NI d N f) (h4 : 4 ≤ N 0) : N 0 = 4 ∨ N 0 = 5 := by
  obtain ⟨s, hs, e⟩ := h.st
  have h5 : 4 ≤ s := Nat.not_lt.mp (fun q => nI_ge (b := 4) q (by omega) (by rw [← e]; exact h4))
  rcases (show s = 4 ∨ s = 5 by omega) with z | z
  · subst z; exact Or.inl e
  · subst z; exact Or.inr e
theorem NI.mid {d : Nat} {N f : Nat → Int32} (h : NI d N f) (h0 : ¬ N 0 ≤ 0) (h4 : ¬ 4 ≤ N 0) : N 0 = 1 ∨ N 0 = 2 ∨ N 0 = 3 := by
  obtain ⟨s, hs, e⟩ := h.st
  match s, hs, e with
  | 0, _, e => exact absurd (show N 0 ≤ 0 by rw [e]; decide) h0
  | 1, _, e => exact Or.inl e
  | 2, _, e => exact Or.inr (Or.inl e)
  | 3, _, e => exact Or.inr (Or.inr e)
  | 4, _, e => exact absurd (show 4 ≤ N 0 by rw [e]; decide) h4
  | 5, _, e => exact absurd (show 4 ≤ N 0 by rw [e]; decide) h4
theorem kDispute_no {N : Nat → Int32} {i j : Nat} (hi : i < 6) (hj : j < 16) (h : N 0 = 0 ∨ N 0 = 4 ∨ N 0 = 5 ∨ N 1 = nI i) : kDispute N (nI i) (nI j) = 3 := by
  rw [kDispute_n (by omega) (by omega), if_pos hi, if_pos hj]
  rcases h with h | h | h | h
  · rw [if_neg (by rw [h]; decide), if_pos (sHeld_n (by rw [h]; decide) (by rw [h]; decide))]
  · rw [if_neg (by rw [h]; decide), if_pos (sHeld_n (by rw [h]; decide) (by rw [h]; decide))]
  · rw [if_neg (by rw [h]; decide), if_pos (sHeld_n (by rw [h]; decide) (by rw [h]; decide))]
  · rw [if_pos h]
    repeat (first | rfl | split)
theorem kDispute_ok {N : Nat → Int32} {i j : Nat} (hi : i < 6) (hj : j < 16) (h : N 0 = 1 ∨ N 0 = 2 ∨ N 0 = 3) (h1 : ¬ N 1 = nI i) : kDispute N (nI i) (nI j) = 0 := by
  rw [kDispute_n (by omega) (by omega), if_pos hi, if_pos hj, if_neg h1]
  rcases h with h | h
  · rw [if_pos h]
  · rw [sHeld_y h, if_neg (show ¬ (1 : Int32) = 0 by decide)]
    split <;> rfl
theorem INV.dispute {d a i j : Nat} {w : Int32} {D mny : Nat → Int32} {N f : Nat → Nat → Int32} {rk rf rg rh : Nat → Nat → Int32} {t c F G : Nat → Int32} (h : INV d a D mny N f rk rf rg rh t c F G) (hj : j < 16) (hi : i < 6) (h0 : N j 0 = 1 ∨ N j 0 = 2 ∨ N j 0 = 3) (h1 : ¬ N j 1 = nI i) (hw : w = if N j 0 = 1 then 1 else 0) :
    INV d a D mny (updA N j (upd (upd (upd (upd (N j) 6 (N j 0)) 0 5) 7 (nI i)) 8 (D 3))) (updA f j (fun _ => 0)) rk rf rg rh (upd (upd t j 5) (32 + j) (-1)) (upd c (32 + j) w) F G := by
  obtain ⟨i1, i2, i3, i4, i5, i6, i7⟩ := id h
  obtain ⟨n1, n2, n3, n4, n5, n6, r, r1, r2⟩ := i5 j hj
  refine INV.one h rfl i3 rfl i4 rfl (fun k hk => updA_no hk) (fun k hk => updA_no hk) (fun k hk hne => ⟨?_, ?_, ?_, ?_, ?_, ?_⟩) ?_ ?_
  · rw [upd_no (by omega), upd_no (by omega)]
  · rw [upd_no (by omega), upd_no (by omega)]
  · rw [upd_no (by omega), upd_no (by omega)]
  · rw [upd_no (by omega)]
  · rw [upd_no (by omega)]
  · rw [upd_no (by omega)]
  · rw [updA_at, updA_at]
    rcases h0 with h0 | h0
    · exact NI.mkA hi rfl h0 (n1.at1 h0).1 rfl (fun _ _ => rfl)
    · have hs : ∃ s : Nat, 2 ≤ s ∧ s ≤ 3 ∧ N j 0 = nI s := by
        rcases h0 with h0 | h0
        · exact ⟨2, by omega, by omega, h0⟩
        · exact ⟨3, by omega, by omega, h0⟩
      obtain ⟨s, s2, s3, e0⟩ := hs
      obtain ⟨e, o, ho, a1, a2, a3, a4, hz⟩ := n1.atH e0 s2 (by omega)
      exact NI.mkF (e := e) (o := o) (q := i) (z := d) s2 s3 ho hi (fun z => h1 (by rw [a3, z])) (Nat.le_refl d) a1 a2 rfl e0 a3 rfl i1 a4 (fun _ _ => rfl)
  · rw [updA_at]
    refine ⟨?_, ?_, ?_, fun z => ?_, fun z => ?_, r, r1, r2⟩
    · rw [upd_no (by omega), upd_at]; rfl
    · rw [upd_no (by omega), upd_no (by omega)]; exact n3
    · rw [upd_at, sDay_5 rfl]
    · have hrec : ¬ sRec (N j) = 0 := by
        rcases h0 with h0 | h0 | h0
        · exact absurd (sRec_5a rfl h0) z
        · rw [sRec_2 h0]; decide
        · rw [sRec_3 h0]; decide
      exact ⟨(upd_no (by omega)).trans (n5 hrec).1, (upd_no (by omega)).trans (n5 hrec).2⟩
    · rw [upd_at, hw]; rfl
abbrev PL_isDisputed (G : va_G) (T : Nat → ClassId) (Ad : Nat → Nat) (AF : Nat → Nat → Nat) (D mny : Nat → Int32) (N f g : Nat → Nat → Int32) (rk rf rg rh : Nat → Nat → Int32) (ta ca fa ga : Nat → Int32) (i j d a : Nat) (sz : Nat) : Array Value → State → Prop := gPc G T [.ref (Ad 1), .ref (Ad 5), .ref (Ad 6), .int (nI i), .int (nI j)] (wW T Ad AF ta ca fa ga D mny N f g rk rf rg rh) sz
abbrev QL_isDisputed (G : va_G) (T : Nat → ClassId) (Ad : Nat → Nat) (AF : Nat → Nat → Nat) (D mny : Nat → Int32) (N f g : Nat → Nat → Int32) (rk rf rg rh : Nat → Nat → Int32) (ta ca fa ga : Nat → Int32) (i j d a : Nat) (sz : Nat) : Array Value → State → Outcome → State → Prop := va_Qi (fun (r : Int32) (u : UL) => r = 1 ∧ INVu d a u) (fun (u : UL) (w9 : State) => va_P G vwCl (wW T Ad AF u.2.2.2.2.2.2.2.2.2.1 u.2.2.2.2.2.2.2.2.2.2.1 u.2.2.2.2.2.2.2.2.2.2.2.1 u.2.2.2.2.2.2.2.2.2.2.2.2 u.1 u.2.1 u.2.2.1 u.2.2.2.1 u.2.2.2.2.1 u.2.2.2.2.2.1 u.2.2.2.2.2.2.1 u.2.2.2.2.2.2.2.1 u.2.2.2.2.2.2.2.2.1) w9.heap) (va_A (wW T Ad AF ta ca fa ga D mny N f g rk rf rg rh) sz)
set_option maxHeartbeats 4000000 in
set_option maxRecDepth 100000 in
theorem kL_isDisputed (l : Launch) (hl0 : l.stackTraces = false) (G : va_G) (T : Nat → ClassId) (Ad : Nat → Nat) (AF : Nat → Nat → Nat) (D mny : Nat → Int32) (N f g : Nat → Nat → Int32) (rk rf rg rh : Nat → Nat → Int32) (ta ca fa ga : Nat → Int32) (i j d a : Nat) (sz : Nat) (hI : INV d a D mny N f rk rf rg rh ta ca fa ga) (hd : d < 2 ^ 20) (ha : a < 2 ^ 20) (hi7 : i ≤ 6) (hnj : j < 4 ∨ j = 16) : Met l yL_isDisputed wsL_isDisputed ({ frames := 9, cells := 3, slots := 18, locals := 151 } : Room) (PL_isDisputed G T Ad AF D mny N f g rk rf rg rh ta ca fa ga i j d a sz) (QL_isDisputed G T Ad AF D mny N f g rk rf rg rh ta ca fa ga i j d a sz) 3 18 (va_A (wW T Ad AF ta ca fa ga D mny N f g rk rf rg rh) sz) := by
  refine Met.ofW (cc := cL_isDisputed) (maxL := 8) (ret := (some .boolean)) (by decide) rfl ?_
  intro p e s m args below meth c s₁ B hml hv
  obtain ⟨rfl, hsz, hP, hK, hD0, hE⟩ := hv
  have hx := B.exec
  have hb := B.bytes
  have hr := B.returns
  have hts := atoms_spec (ws := wsL_isDisputed) B.pre
  have hown : s.vm.findClass RL = some m.cls := findClass_of_methodNamed B.named
  have hlocks := B.notSynchronized
  subst hsz
  have hD := hD0.self (sz := s.heap.size)
  have hA : ∀ q : Nat, s.heap.size ≤ q → (va_A (wW T Ad AF ta ca fa ga D mny N f g rk rf rg rh) s.heap.size) q := fun q h => Or.inr h
  have hS : va_S (va_A (wW T Ad AF ta ca fa ga D mny N f g rk rf rg rh) s.heap.size) s.heap s.heap [] := va_S.rf
  have hl := lv_entry ([.ref (Ad 1), .ref (Ad 5), .ref (Ad 6), .int (nI i), .int (nI j)]) (n := 8) (Nat.le_of_ble_eq_true rfl)
  rw [lg_entry_eq]
  generalize (lg_sl ([.ref (Ad 1), .ref (Ad 5), .ref (Ad 6), .int (nI i), .int (nI j)]) ++ List.replicate (8 - (lg_sl ([.ref (Ad 1), .ref (Ad 5), .ref (Ad 6), .int (nI i), .int (nI j)])).length) Slot.unset).toArray = ls at hl ⊢
  have hl : lv_has ls 8 [(0, .ref (Ad 1)), (1, .ref (Ad 5)), (2, .ref (Ad 6)), (3, .int (nI i)), (4, .int (nI j))] := hl
  obtain ⟨i1, i2, ⟨m9, p9, j1, j2, j3⟩, i4, i5, i6, i7⟩ := id hI
  have hp9 : p9 < 2 ^ 20 := Nat.lt_of_le_of_lt psum_p (by rw [j3]; exact ha)
  have hm9 : ∀ k, k < 6 → m9 k < 2 ^ 20 := fun k hk => by have := psum_le (p := p9) (m := m9) hk; omega
  have hP : va_P G vwCl (wW T Ad AF ta ca fa ga D mny N f g rk rf rg rh) s.heap := hP
  refine lv_iload_n hx hb dL_isDisputed_0 rfl (lv_at hl 3 rfl) ?_
  refine lv_bipush (v := 6) hx hb dL_isDisputed_1 (by decide) ?_
  refine lv_icmp_ge (tgt := 17) hx hb dL_isDisputed_3 (by decide) (fun c3 => ?_) (fun c3 => ?_)
  · skip
    have hi6 : 6 ≤ i := Nat.not_lt.mp (fun q9 => nI_ge (b := 6) q9 (by omega) c3)
    refine lv_iconst (v := 0) hx hb dL_isDisputed_17 (by decide) ?_
    refine lv_istore (lv' := [(5, .int 0), (0, .ref (Ad 1)), (1, .ref (Ad 5)), (2, .ref (Ad 6)), (3, .int (nI i)), (4, .int (nI j))]) hx hb dL_isDisputed_18 hl (by decide) rfl (fun ls hl => ?_)
    refine lv_iload hx hb dL_isDisputed_20 (lv_at hl 0 rfl) ?_
    refine lv_if_eq (tgt := 55) hx hb dL_isDisputed_22 (by decide) (fun c22 => ?_) (fun c22 => ?_)
    · skip
      refine lv_iconst (v := 0) hx hb dL_isDisputed_55 (by decide) ?_
      refine lv_istore (lv' := [(6, .int 0), (5, .int 0), (0, .ref (Ad 1)), (1, .ref (Ad 5)), (2, .ref (Ad 6)), (3, .int (nI i)), (4, .int (nI j))]) hx hb dL_isDisputed_56 hl (by decide) rfl (fun ls hl => ?_)
      refine lv_iload hx hb dL_isDisputed_58 (lv_at hl 1 rfl) ?_
      refine lv_if_ne (tgt := 68) hx hb dL_isDisputed_60 (by decide) (fun c60 => ?_) (fun c60 => ?_)
      · exact absurd c60 (by decide)
      · skip
        refine lv_bipush (v := (-30)) hx hb dL_isDisputed_63 (by decide) ?_
        refine lv_goto (tgt := 82) hx hb dL_isDisputed_65 (by decide) ?_
        refine lv_istore (lv' := [(7, .int (-30)), (6, .int 0), (5, .int 0), (0, .ref (Ad 1)), (1, .ref (Ad 5)), (2, .ref (Ad 6)), (3, .int (nI i)), (4, .int (nI j))]) hx hb dL_isDisputed_82 hl (by decide) rfl (fun ls hl => ?_)
        refine lv_iload hx hb dL_isDisputed_84 (lv_at hl 1 rfl) ?_
        refine lv_if_eq (tgt := 122) hx hb dL_isDisputed_86 (by decide) (fun c86 => ?_) (fun c86 => ?_)
        · skip
          refine lv_aload_n hx hb dL_isDisputed_122 rfl (lv_at hl 3 rfl) ?_
          refine lv_iconst (v := 5) hx hb dL_isDisputed_123 (by decide) ?_
          refine lv_iload_n hx hb dL_isDisputed_124 rfl (lv_at hl 6 rfl) ?_
          refine lv_iload hx hb dL_isDisputed_125 (lv_at hl 7 rfl) ?_
          refine lv_iconst (v := 0) hx hb dL_isDisputed_127 (by decide) ?_
          refine gciT (X := wX4 T Ad ta ca fa ga) (vx_runSW (As := [.ref (Ad 1), .int 5, .int (nI i), .int (nI j), .int 0]) (rest := []) ⟨hx, hb, hml, hown, hts⟩ (cL_does_5_noc l hl0 G T Ad AF D mny N f g rk rf rg rh (j % 16) (nI i) (nI j) 0 _ (Nat.mod_lt _ (by decide)) (ix16 (by omega)) (fun h9 => absurd (h9.symm.trans (show kDispute (N (j % 16)) (nI i) (nI j) = 1 by rw [kDispute_n (by omega) (by omega), if_neg (by omega)])) (by decide))) (vx_cwSW 5 hts gL_isDisputed_L_does rfl rfl rfl (by decide +kernel) ⟨Nat.le_of_ble_eq_true rfl, Nat.le_of_ble_eq_true rfl⟩) ⟨gblind, gpreT (X := wX4 T Ad ta ca fa ga) hE hK hP hD hS hA⟩ rfl rfl hl.1 rfl (lv_room (Nat.le_of_ble_eq_true rfl)) dL_isDisputed_128 ⟨Nat.le_of_ble_eq_true rfl, Nat.le_of_ble_eq_true rfl⟩) hP hD hS hA wC_fst (fun r9 H locs hw hP hD hS => ?_)
          have hP : va_P G vwCl (wW T Ad AF ta ca fa ga D mny N f g rk rf rg rh) H := hP
          have hD : va_D (va_A (wW T Ad AF ta ca fa ga D mny N f g rk rf rg rh) s.heap.size) (wW T Ad AF ta ca fa ga D mny N f g rk rf rg rh) := hD
          subst hw
          refine gtop (y := (-30)) (wD_30 (show kDispute (N (j % 16)) (nI i) (nI j) = 1 by rw [kDispute_n (by omega) (by omega), if_neg (by omega)])) ?_
          refine lv_iload hx hb dL_isDisputed_131 (lv_at hl 0 rfl) ?_
          refine lv_icmp_ne (tgt := 140) hx hb dL_isDisputed_133 (by decide) (fun c133 => ?_) (fun c133 => ?_)
          · exact absurd c133 (by decide)
          · skip
            refine lv_iconst (v := 1) hx hb dL_isDisputed_136 (by decide) ?_
            refine lv_goto (tgt := 141) hx hb dL_isDisputed_137 (by decide) ?_
            exact W.zret (v := 1) hx hb hr (by decide) (fun w9 ht9 hW => ⟨⟨1, (D, mny, N, f, g, rk, rf, rg, rh, ta, ca, fa, ga), rfl, ⟨rfl, hI⟩, gBi ht9 (gfin hP (rfl))⟩, hS.F ht9⟩) hS.2.2 dL_isDisputed_141
        · exact absurd c86 (by decide)
    · exact absurd c22 (by decide)
  · skip
    have hi6 : i < 6 := Nat.not_le.mp (fun q9 => c3 (nI_le (a := 6) q9 (by omega)))
    refine lv_iload hx hb dL_isDisputed_6 (lv_at hl 4 rfl) ?_
    refine lv_bipush (v := 16) hx hb dL_isDisputed_8 (by decide) ?_
    refine lv_icmp_ge (tgt := 17) hx hb dL_isDisputed_10 (by decide) (fun c10 => ?_) (fun c10 => ?_)
    · skip
      have hj9 : 16 ≤ j := Nat.not_lt.mp (fun q9 => nI_ge (b := 16) q9 (by omega) c10)
      refine lv_iconst (v := 0) hx hb dL_isDisputed_17 (by decide) ?_
      refine lv_istore (lv' := [(5, .int 0), (0, .ref (Ad 1)), (1, .ref (Ad 5)), (2, .ref (Ad 6)), (3, .int (nI i)), (4, .int (nI j))]) hx hb dL_isDisputed_18 hl (by decide) rfl (fun ls hl => ?_)
      refine lv_iload hx hb dL_isDisputed_20 (lv_at hl 0 rfl) ?_
      refine lv_if_eq (tgt := 55) hx hb dL_isDisputed_22 (by decide) (fun c22 => ?_) (fun c22 => ?_)
      · skip
        refine lv_iconst (v := 0) hx hb dL_isDisputed_55 (by decide) ?_
        refine lv_istore (lv' := [(6, .int 0), (5, .int 0), (0, .ref (Ad 1)), (1, .ref (Ad 5)), (2, .ref (Ad 6)), (3, .int (nI i)), (4, .int (nI j))]) hx hb dL_isDisputed_56 hl (by decide) rfl (fun ls hl => ?_)
        refine lv_iload hx hb dL_isDisputed_58 (lv_at hl 1 rfl) ?_
        refine lv_if_ne (tgt := 68) hx hb dL_isDisputed_60 (by decide) (fun c60 => ?_) (fun c60 => ?_)
        · exact absurd c60 (by decide)
        · skip
          refine lv_bipush (v := (-30)) hx hb dL_isDisputed_63 (by decide) ?_
          refine lv_goto (tgt := 82) hx hb dL_isDisputed_65 (by decide) ?_
          refine lv_istore (lv' := [(7, .int (-30)), (6, .int 0), (5, .int 0), (0, .ref (Ad 1)), (1, .ref (Ad 5)), (2, .ref (Ad 6)), (3, .int (nI i)), (4, .int (nI j))]) hx hb dL_isDisputed_82 hl (by decide) rfl (fun ls hl => ?_)
          refine lv_iload hx hb dL_isDisputed_84 (lv_at hl 1 rfl) ?_
          refine lv_if_eq (tgt := 122) hx hb dL_isDisputed_86 (by decide) (fun c86 => ?_) (fun c86 => ?_)
          · skip
            refine lv_aload_n hx hb dL_isDisputed_122 rfl (lv_at hl 3 rfl) ?_
            refine lv_iconst (v := 5) hx hb dL_isDisputed_123 (by decide) ?_
            refine lv_iload_n hx hb dL_isDisputed_124 rfl (lv_at hl 6 rfl) ?_
            refine lv_iload hx hb dL_isDisputed_125 (lv_at hl 7 rfl) ?_
            refine lv_iconst (v := 0) hx hb dL_isDisputed_127 (by decide) ?_
            refine gciT (X := wX4 T Ad ta ca fa ga) (vx_runSW (As := [.ref (Ad 1), .int 5, .int (nI i), .int (nI j), .int 0]) (rest := []) ⟨hx, hb, hml, hown, hts⟩ (cL_does_5_noc l hl0 G T Ad AF D mny N f g rk rf rg rh (j % 16) (nI i) (nI j) 0 _ (Nat.mod_lt _ (by decide)) (ix16 (by omega)) (fun h9 => absurd (h9.symm.trans (show kDispute (N (j % 16)) (nI i) (nI j) = 1 by rw [kDispute_n (by omega) (by omega), if_pos (by omega), if_neg (by omega)])) (by decide))) (vx_cwSW 5 hts gL_isDisputed_L_does rfl rfl rfl (by decide +kernel) ⟨Nat.le_of_ble_eq_true rfl, Nat.le_of_ble_eq_true rfl⟩) ⟨gblind, gpreT (X := wX4 T Ad ta ca fa ga) hE hK hP hD hS hA⟩ rfl rfl hl.1 rfl (lv_room (Nat.le_of_ble_eq_true rfl)) dL_isDisputed_128 ⟨Nat.le_of_ble_eq_true rfl, Nat.le_of_ble_eq_true rfl⟩) hP hD hS hA wC_fst (fun r9 H locs hw hP hD hS => ?_)
            have hP : va_P G vwCl (wW T Ad AF ta ca fa ga D mny N f g rk rf rg rh) H := hP
            have hD : va_D (va_A (wW T Ad AF ta ca fa ga D mny N f g rk rf rg rh) s.heap.size) (wW T Ad AF ta ca fa ga D mny N f g rk rf rg rh) := hD
            subst hw
            refine gtop (y := (-30)) (wD_30 (show kDispute (N (j % 16)) (nI i) (nI j) = 1 by rw [kDispute_n (by omega) (by omega), if_pos (by omega), if_neg (by omega)])) ?_
            refine lv_iload hx hb dL_isDisputed_131 (lv_at hl 0 rfl) ?_
            refine lv_icmp_ne (tgt := 140) hx hb dL_isDisputed_133 (by decide) (fun c133 => ?_) (fun c133 => ?_)
            · exact absurd c133 (by decide)
            · skip
              refine lv_iconst (v := 1) hx hb dL_isDisputed_136 (by decide) ?_
              refine lv_goto (tgt := 141) hx hb dL_isDisputed_137 (by decide) ?_
              exact W.zret (v := 1) hx hb hr (by decide) (fun w9 ht9 hW => ⟨⟨1, (D, mny, N, f, g, rk, rf, rg, rh, ta, ca, fa, ga), rfl, ⟨rfl, hI⟩, gBi ht9 (gfin hP (rfl))⟩, hS.F ht9⟩) hS.2.2 dL_isDisputed_141
          · exact absurd c86 (by decide)
      · exact absurd c22 (by decide)
    · skip
      have hj16 : j < 16 := Nat.not_le.mp (fun q9 => c10 (nI_le (a := 16) q9 (by omega)))
      obtain ⟨n1, n2⟩ := i5 j hj16
      refine lv_iconst (v := 1) hx hb dL_isDisputed_13 (by decide) ?_
      refine lv_goto (tgt := 18) hx hb dL_isDisputed_14 (by decide) ?_
      refine lv_istore (lv' := [(5, .int 1), (0, .ref (Ad 1)), (1, .ref (Ad 5)), (2, .ref (Ad 6)), (3, .int (nI i)), (4, .int (nI j))]) hx hb dL_isDisputed_18 hl (by decide) rfl (fun ls hl => ?_)
      refine lv_iload hx hb dL_isDisputed_20 (lv_at hl 0 rfl) ?_
      refine lv_if_eq (tgt := 55) hx hb dL_isDisputed_22 (by decide) (fun c22 => ?_) (fun c22 => ?_)
      · exact absurd c22 (by decide)
      · skip
        refine lv_aload_n hx hb dL_isDisputed_25 rfl (lv_at hl 2 rfl) ?_
        refine lv_iload hx hb dL_isDisputed_26 (lv_at hl 5 rfl) ?_
        refine giald (j := j) hx hb hK hP 0 0 rfl rfl (show (nI j : Int32) = nI j from rfl) (by omega) (by decide) dL_isDisputed_28 ?_
        refine gtop (y := N j 0) n2.1 ?_
        refine lv_if_le (tgt := 55) hx hb dL_isDisputed_29 (by decide) (fun c29 => ?_) (fun c29 => ?_)
        · skip
          refine lv_iconst (v := 0) hx hb dL_isDisputed_55 (by decide) ?_
          refine lv_istore (lv' := [(6, .int 0), (5, .int 1), (0, .ref (Ad 1)), (1, .ref (Ad 5)), (2, .ref (Ad 6)), (3, .int (nI i)), (4, .int (nI j))]) hx hb dL_isDisputed_56 hl (by decide) rfl (fun ls hl => ?_)
          refine lv_iload hx hb dL_isDisputed_58 (lv_at hl 1 rfl) ?_
          refine lv_if_ne (tgt := 68) hx hb dL_isDisputed_60 (by decide) (fun c60 => ?_) (fun c60 => ?_)
          · skip
            refine lv_iload hx hb dL_isDisputed_68 (lv_at hl 0 rfl) ?_
            refine lv_if_eq (tgt := 80) hx hb dL_isDisputed_70 (by decide) (fun c70 => ?_) (fun c70 => ?_)
            · skip
              refine lv_bipush (v := (-10)) hx hb dL_isDisputed_80 (by decide) ?_
              refine lv_istore (lv' := [(7, .int (-10)), (6, .int 0), (5, .int 1), (0, .ref (Ad 1)), (1, .ref (Ad 5)), (2, .ref (Ad 6)), (3, .int (nI i)), (4, .int (nI j))]) hx hb dL_isDisputed_82 hl (by decide) rfl (fun ls hl => ?_)
              refine lv_iload hx hb dL_isDisputed_84 (lv_at hl 1 rfl) ?_
              refine lv_if_eq (tgt := 122) hx hb dL_isDisputed_86 (by decide) (fun c86 => ?_) (fun c86 => ?_)
              · skip
                refine lv_aload_n hx hb dL_isDisputed_122 rfl (lv_at hl 3 rfl) ?_
                refine lv_iconst (v := 5) hx hb dL_isDisputed_123 (by decide) ?_
                refine lv_iload_n hx hb dL_isDisputed_124 rfl (lv_at hl 6 rfl) ?_
                refine lv_iload hx hb dL_isDisputed_125 (lv_at hl 7 rfl) ?_
                refine lv_iconst (v := 0) hx hb dL_isDisputed_127 (by decide) ?_
                refine gciT (X := wX4 T Ad ta ca fa ga) (vx_runSW (As := [.ref (Ad 1), .int 5, .int (nI i), .int (nI j), .int 0]) (rest := []) ⟨hx, hb, hml, hown, hts⟩ (cL_does_5_noc l hl0 G T Ad AF D mny N f g rk rf rg rh j (nI i) (nI j) 0 _ hj16 (fun _ => ⟨rfl, hj16⟩) (fun h9 => absurd (h9.symm.trans (kDispute_no hi6 hj16 (Or.inl (n1.lo c29)))) (by decide))) (vx_cwSW 5 hts gL_isDisputed_L_does rfl rfl rfl (by decide +kernel) ⟨Nat.le_of_ble_eq_true rfl, Nat.le_of_ble_eq_true rfl⟩) ⟨gblind, gpreT (X := wX4 T Ad ta ca fa ga) hE hK hP hD hS hA⟩ rfl rfl hl.1 rfl (lv_room (Nat.le_of_ble_eq_true rfl)) dL_isDisputed_128 ⟨Nat.le_of_ble_eq_true rfl, Nat.le_of_ble_eq_true rfl⟩) hP hD hS hA wC_fst (fun r9 H locs hw hP hD hS => ?_)
                have hP : va_P G vwCl (wW T Ad AF ta ca fa ga D mny N f g rk rf rg rh) H := hP
                have hD : va_D (va_A (wW T Ad AF ta ca fa ga D mny N f g rk rf rg rh) s.heap.size) (wW T Ad AF ta ca fa ga D mny N f g rk rf rg rh) := hD
                subst hw
                refine gtop (y := (-10)) (wD_10 (kDispute_no hi6 hj16 (Or.inl (n1.lo c29)))) ?_
                refine lv_iload hx hb dL_isDisputed_131 (lv_at hl 0 rfl) ?_
                refine lv_icmp_ne (tgt := 140) hx hb dL_isDisputed_133 (by decide) (fun c133 => ?_) (fun c133 => ?_)
                · exact absurd c133 (by decide)
                · skip
                  refine lv_iconst (v := 1) hx hb dL_isDisputed_136 (by decide) ?_
                  refine lv_goto (tgt := 141) hx hb dL_isDisputed_137 (by decide) ?_
                  exact W.zret (v := 1) hx hb hr (by decide) (fun w9 ht9 hW => ⟨⟨1, (D, mny, N, f, g, rk, rf, rg, rh, ta, ca, fa, ga), rfl, ⟨rfl, hI⟩, gBi ht9 (gfin hP (rfl))⟩, hS.F ht9⟩) hS.2.2 dL_isDisputed_141
              · exact absurd c86 (by decide)
            · exact absurd c70 (by decide)
          · exact absurd c60 (by decide)
        · skip
          refine lv_aload_n hx hb dL_isDisputed_32 rfl (lv_at hl 2 rfl) ?_
          refine lv_iload hx hb dL_isDisputed_33 (lv_at hl 5 rfl) ?_
          refine giald (j := j) hx hb hK hP 0 0 rfl rfl (show (nI j : Int32) = nI j from rfl) (by omega) (by decide) dL_isDisputed_35 ?_
          refine gtop (y := N j 0) n2.1 ?_
          refine lv_iconst (v := 4) hx hb dL_isDisputed_36 (by decide) ?_
          refine lv_icmp_ge (tgt := 55) hx hb dL_isDisputed_37 (by decide) (fun c37 => ?_) (fun c37 => ?_)
          · skip
            refine lv_iconst (v := 0) hx hb dL_isDisputed_55 (by decide) ?_
            refine lv_istore (lv' := [(6, .int 0), (5, .int 1), (0, .ref (Ad 1)), (1, .ref (Ad 5)), (2, .ref (Ad 6)), (3, .int (nI i)), (4, .int (nI j))]) hx hb dL_isDisputed_56 hl (by decide) rfl (fun ls hl => ?_)
            refine lv_iload hx hb dL_isDisputed_58 (lv_at hl 1 rfl) ?_
            refine lv_if_ne (tgt := 68) hx hb dL_isDisputed_60 (by decide) (fun c60 => ?_) (fun c60 => ?_)
            · skip
              refine lv_iload hx hb dL_isDisputed_68 (lv_at hl 0 rfl) ?_
              refine lv_if_eq (tgt := 80) hx hb dL_isDisputed_70 (by decide) (fun c70 => ?_) (fun c70 => ?_)
              · skip
                refine lv_bipush (v := (-10)) hx hb dL_isDisputed_80 (by decide) ?_
                refine lv_istore (lv' := [(7, .int (-10)), (6, .int 0), (5, .int 1), (0, .ref (Ad 1)), (1, .ref (Ad 5)), (2, .ref (Ad 6)), (3, .int (nI i)), (4, .int (nI j))]) hx hb dL_isDisputed_82 hl (by decide) rfl (fun ls hl => ?_)
                refine lv_iload hx hb dL_isDisputed_84 (lv_at hl 1 rfl) ?_
                refine lv_if_eq (tgt := 122) hx hb dL_isDisputed_86 (by decide) (fun c86 => ?_) (fun c86 => ?_)
                · skip
                  refine lv_aload_n hx hb dL_isDisputed_122 rfl (lv_at hl 3 rfl) ?_
                  refine lv_iconst (v := 5) hx hb dL_isDisputed_123 (by decide) ?_
                  refine lv_iload_n hx hb dL_isDisputed_124 rfl (lv_at hl 6 rfl) ?_
                  refine lv_iload hx hb dL_isDisputed_125 (lv_at hl 7 rfl) ?_
                  refine lv_iconst (v := 0) hx hb dL_isDisputed_127 (by decide) ?_
                  refine gciT (X := wX4 T Ad ta ca fa ga) (vx_runSW (As := [.ref (Ad 1), .int 5, .int (nI i), .int (nI j), .int 0]) (rest := []) ⟨hx, hb, hml, hown, hts⟩ (cL_does_5_noc l hl0 G T Ad AF D mny N f g rk rf rg rh j (nI i) (nI j) 0 _ hj16 (fun _ => ⟨rfl, hj16⟩) (fun h9 => absurd (h9.symm.trans (kDispute_no hi6 hj16 (Or.inr ((n1.hi c37).elim Or.inl (fun z => Or.inr (Or.inl z)))))) (by decide))) (vx_cwSW 5 hts gL_isDisputed_L_does rfl rfl rfl (by decide +kernel) ⟨Nat.le_of_ble_eq_true rfl, Nat.le_of_ble_eq_true rfl⟩) ⟨gblind, gpreT (X := wX4 T Ad ta ca fa ga) hE hK hP hD hS hA⟩ rfl rfl hl.1 rfl (lv_room (Nat.le_of_ble_eq_true rfl)) dL_isDisputed_128 ⟨Nat.le_of_ble_eq_true rfl, Nat.le_of_ble_eq_true rfl⟩) hP hD hS hA wC_fst (fun r9 H locs hw hP hD hS => ?_)
                  have hP : va_P G vwCl (wW T Ad AF ta ca fa ga D mny N f g rk rf rg rh) H := hP
                  have hD : va_D (va_A (wW T Ad AF ta ca fa ga D mny N f g rk rf rg rh) s.heap.size) (wW T Ad AF ta ca fa ga D mny N f g rk rf rg rh) := hD
                  subst hw
                  refine gtop (y := (-10)) (wD_10 (kDispute_no hi6 hj16 (Or.inr ((n1.hi c37).elim Or.inl (fun z => Or.inr (Or.inl z)))))) ?_
                  refine lv_iload hx hb dL_isDisputed_131 (lv_at hl 0 rfl) ?_
                  refine lv_icmp_ne (tgt := 140) hx hb dL_isDisputed_133 (by decide) (fun c133 => ?_) (fun c133 => ?_)
                  · exact absurd c133 (by decide)
                  · skip
                    refine lv_iconst (v := 1) hx hb dL_isDisputed_136 (by decide) ?_
                    refine lv_goto (tgt := 141) hx hb dL_isDisputed_137 (by decide) ?_
                    exact W.zret (v := 1) hx hb hr (by decide) (fun w9 ht9 hW => ⟨⟨1, (D, mny, N, f, g, rk, rf, rg, rh, ta, ca, fa, ga), rfl, ⟨rfl, hI⟩, gBi ht9 (gfin hP (rfl))⟩, hS.F ht9⟩) hS.2.2 dL_isDisputed_141
                · exact absurd c86 (by decide)
              · exact absurd c70 (by decide)
            · exact absurd c60 (by decide)
          · skip
            refine lv_aload_n hx hb dL_isDisputed_40 rfl (lv_at hl 2 rfl) ?_
            refine lv_bipush (v := 16) hx hb dL_isDisputed_41 (by decide) ?_
            refine lv_iload hx hb dL_isDisputed_43 (lv_at hl 5 rfl) ?_
            refine lv_iadd hx hb dL_isDisputed_45 ?_
            refine gtop (y := nI (16 + j)) (nI_add 16 j) ?_
            refine giald (j := (16 + j)) hx hb hK hP 0 0 rfl rfl (show (nI (16 + j) : Int32) = nI (16 + j) from rfl) (by omega) (by decide) dL_isDisputed_46 ?_
            refine gtop (y := N j 1) n2.2.1 ?_
            refine lv_iload_n hx hb dL_isDisputed_47 rfl (lv_at hl 4 rfl) ?_
            refine lv_icmp_eq (tgt := 55) hx hb dL_isDisputed_48 (by decide) (fun c48 => ?_) (fun c48 => ?_)
            · skip
              refine lv_iconst (v := 0) hx hb dL_isDisputed_55 (by decide) ?_
              refine lv_istore (lv' := [(6, .int 0), (5, .int 1), (0, .ref (Ad 1)), (1, .ref (Ad 5)), (2, .ref (Ad 6)), (3, .int (nI i)), (4, .int (nI j))]) hx hb dL_isDisputed_56 hl (by decide) rfl (fun ls hl => ?_)
              refine lv_iload hx hb dL_isDisputed_58 (lv_at hl 1 rfl) ?_
              refine lv_if_ne (tgt := 68) hx hb dL_isDisputed_60 (by decide) (fun c60 => ?_) (fun c60 => ?_)
              · skip
                refine lv_iload hx hb dL_isDisputed_68 (lv_at hl 0 rfl) ?_
                refine lv_if_eq (tgt := 80) hx hb dL_isDisputed_70 (by decide) (fun c70 => ?_) (fun c70 => ?_)
                · skip
                  refine lv_bipush (v := (-10)) hx hb dL_isDisputed_80 (by decide) ?_
                  refine lv_istore (lv' := [(7, .int (-10)), (6, .int 0), (5, .int 1), (0, .ref (Ad 1)), (1, .ref (Ad 5)), (2, .ref (Ad 6)), (3, .int (nI i)), (4, .int (nI j))]) hx hb dL_isDisputed_82 hl (by decide) rfl (fun ls hl => ?_)
                  refine lv_iload hx hb dL_isDisputed_84 (lv_at hl 1 rfl) ?_
                  refine lv_if_eq (tgt := 122) hx hb dL_isDisputed_86 (by decide) (fun c86 => ?_) (fun c86 => ?_)
                  · skip
                    refine lv_aload_n hx hb dL_isDisputed_122 rfl (lv_at hl 3 rfl) ?_
                    refine lv_iconst (v := 5) hx hb dL_isDisputed_123 (by decide) ?_
                    refine lv_iload_n hx hb dL_isDisputed_124 rfl (lv_at hl 6 rfl) ?_
                    refine lv_iload hx hb dL_isDisputed_125 (lv_at hl 7 rfl) ?_
                    refine lv_iconst (v := 0) hx hb dL_isDisputed_127 (by decide) ?_
                    refine gciT (X := wX4 T Ad ta ca fa ga) (vx_runSW (As := [.ref (Ad 1), .int 5, .int (nI i), .int (nI j), .int 0]) (rest := []) ⟨hx, hb, hml, hown, hts⟩ (cL_does_5_noc l hl0 G T Ad AF D mny N f g rk rf rg rh j (nI i) (nI j) 0 _ hj16 (fun _ => ⟨rfl, hj16⟩) (fun h9 => absurd (h9.symm.trans (kDispute_no hi6 hj16 (Or.inr (Or.inr (Or.inr c48))))) (by decide))) (vx_cwSW 5 hts gL_isDisputed_L_does rfl rfl rfl (by decide +kernel) ⟨Nat.le_of_ble_eq_true rfl, Nat.le_of_ble_eq_true rfl⟩) ⟨gblind, gpreT (X := wX4 T Ad ta ca fa ga) hE hK hP hD hS hA⟩ rfl rfl hl.1 rfl (lv_room (Nat.le_of_ble_eq_true rfl)) dL_isDisputed_128 ⟨Nat.le_of_ble_eq_true rfl, Nat.le_of_ble_eq_true rfl⟩) hP hD hS hA wC_fst (fun r9 H locs hw hP hD hS => ?_)
                    have hP : va_P G vwCl (wW T Ad AF ta ca fa ga D mny N f g rk rf rg rh) H := hP
                    have hD : va_D (va_A (wW T Ad AF ta ca fa ga D mny N f g rk rf rg rh) s.heap.size) (wW T Ad AF ta ca fa ga D mny N f g rk rf rg rh) := hD
                    subst hw
                    refine gtop (y := (-10)) (wD_10 (kDispute_no hi6 hj16 (Or.inr (Or.inr (Or.inr c48))))) ?_
                    refine lv_iload hx hb dL_isDisputed_131 (lv_at hl 0 rfl) ?_
                    refine lv_icmp_ne (tgt := 140) hx hb dL_isDisputed_133 (by decide) (fun c133 => ?_) (fun c133 => ?_)
                    · exact absurd c133 (by decide)
                    · skip
                      refine lv_iconst (v := 1) hx hb dL_isDisputed_136 (by decide) ?_
                      refine lv_goto (tgt := 141) hx hb dL_isDisputed_137 (by decide) ?_
                      exact W.zret (v := 1) hx hb hr (by decide) (fun w9 ht9 hW => ⟨⟨1, (D, mny, N, f, g, rk, rf, rg, rh, ta, ca, fa, ga), rfl, ⟨rfl, hI⟩, gBi ht9 (gfin hP (rfl))⟩, hS.F ht9⟩) hS.2.2 dL_isDisputed_141
                  · exact absurd c86 (by decide)
                · exact absurd c70 (by decide)
              · exact absurd c60 (by decide)
            · skip
              refine lv_iconst (v := 1) hx hb dL_isDisputed_51 (by decide) ?_
              refine lv_goto (tgt := 56) hx hb dL_isDisputed_52 (by decide) ?_
              refine lv_istore (lv' := [(6, .int 1), (5, .int 1), (0, .ref (Ad 1)), (1, .ref (Ad 5)), (2, .ref (Ad 6)), (3, .int (nI i)), (4, .int (nI j))]) hx hb dL_isDisputed_56 hl (by decide) rfl (fun ls hl => ?_)
              refine lv_iload hx hb dL_isDisputed_58 (lv_at hl 1 rfl) ?_
              refine lv_if_ne (tgt := 68) hx hb dL_isDisputed_60 (by decide) (fun c60 => ?_) (fun c60 => ?_)
              · skip
                refine lv_iload hx hb dL_isDisputed_68 (lv_at hl 0 rfl) ?_
                refine lv_if_eq (tgt := 80) hx hb dL_isDisputed_70 (by decide) (fun c70 => ?_) (fun c70 => ?_)
                · exact absurd c70 (by decide)
                · skip
                  refine lv_aload_n hx hb dL_isDisputed_73 rfl (lv_at hl 3 rfl) ?_
                  refine lv_iload hx hb dL_isDisputed_74 (lv_at hl 6 rfl) ?_
                  refine giald (j := j) hx hb hK hP 0 0 rfl rfl (show (nI j : Int32) = nI j from rfl) (by omega) (by decide) dL_isDisputed_76 ?_
                  refine gtop (y := N j 0) n2.1 ?_
                  refine lv_goto (tgt := 82) hx hb dL_isDisputed_77 (by decide) ?_
                  refine lv_istore (lv' := [(7, .int (N j 0)), (6, .int 1), (5, .int 1), (0, .ref (Ad 1)), (1, .ref (Ad 5)), (2, .ref (Ad 6)), (3, .int (nI i)), (4, .int (nI j))]) hx hb dL_isDisputed_82 hl (by decide) rfl (fun ls hl => ?_)
                  refine lv_iload hx hb dL_isDisputed_84 (lv_at hl 1 rfl) ?_
                  refine lv_if_eq (tgt := 122) hx hb dL_isDisputed_86 (by decide) (fun c86 => ?_) (fun c86 => ?_)
                  · exact absurd c86 (by decide)
                  · skip
                    refine lv_aload_n hx hb dL_isDisputed_89 rfl (lv_at hl 5 rfl) ?_
                    refine lv_bipush (v := 32) hx hb dL_isDisputed_90 (by decide) ?_
                    refine lv_iload hx hb dL_isDisputed_92 (lv_at hl 7 rfl) ?_
                    refine lv_iadd hx hb dL_isDisputed_94 ?_
                    refine gtop (y := nI (32 + j)) (nI_add 32 j) ?_
                    refine lv_aload_n hx hb dL_isDisputed_95 rfl (lv_at hl 4 rfl) ?_
                    refine lv_iload hx hb dL_isDisputed_96 (lv_at hl 7 rfl) ?_
                    refine giald (j := j) hx hb hK hP 0 0 rfl rfl (show (nI j : Int32) = nI j from rfl) (by omega) (by decide) dL_isDisputed_98 ?_
                    refine gtop (y := N j 0) n2.1 ?_
                    refine lv_iconst (v := 1) hx hb dL_isDisputed_99 (by decide) ?_
                    refine lv_icmp_ne (tgt := 107) hx hb dL_isDisputed_100 (by decide) (fun c100 => ?_) (fun c100 => ?_)
                    · skip
                      refine lv_iconst (v := 0) hx hb dL_isDisputed_107 (by decide) ?_
                      refine giast (j := (32 + j)) hx hb hK hP hD hS 1 0 rfl rfl (show (nI (32 + j) : Int32) = nI (32 + j) from rfl) (by omega) (by decide) dL_isDisputed_108 (fun H locs hP hD hS => ?_)
                      have hP : va_P G vwCl (wW T Ad AF ta (upd ca (32 + j) 0) fa ga D mny N f g rk rf rg rh) H := hP
                      have hD : va_D (va_A (wW T Ad AF ta ca fa ga D mny N f g rk rf rg rh) s.heap.size) (wW T Ad AF ta (upd ca (32 + j) 0) fa ga D mny N f g rk rf rg rh) := hD
                      refine lv_aload_n hx hb dL_isDisputed_109 rfl (lv_at hl 4 rfl) ?_
                      refine lv_iload hx hb dL_isDisputed_110 (lv_at hl 7 rfl) ?_
                      refine lv_iconst (v := 5) hx hb dL_isDisputed_112 (by decide) ?_
                      refine giast (j := j) hx hb hK hP hD hS 0 0 rfl rfl (show (nI j : Int32) = nI j from rfl) (by omega) (by decide) dL_isDisputed_113 (fun H locs hP hD hS => ?_)
                      have hP : va_P G vwCl (wW T Ad AF (upd ta j 5) (upd ca (32 + j) 0) fa ga D mny N f g rk rf rg rh) H := hP
                      have hD : va_D (va_A (wW T Ad AF ta ca fa ga D mny N f g rk rf rg rh) s.heap.size) (wW T Ad AF (upd ta j 5) (upd ca (32 + j) 0) fa ga D mny N f g rk rf rg rh) := hD
                      refine lv_aload_n hx hb dL_isDisputed_114 rfl (lv_at hl 4 rfl) ?_
                      refine lv_bipush (v := 32) hx hb dL_isDisputed_115 (by decide) ?_
                      refine lv_iload hx hb dL_isDisputed_117 (lv_at hl 7 rfl) ?_
                      refine lv_iadd hx hb dL_isDisputed_119 ?_
                      refine gtop (y := nI (32 + j)) (nI_add 32 j) ?_
                      refine lv_iconst (v := (-1)) hx hb dL_isDisputed_120 (by decide) ?_
                      refine giast (j := (32 + j)) hx hb hK hP hD hS 0 0 rfl rfl (show (nI (32 + j) : Int32) = nI (32 + j) from rfl) (by omega) (by decide) dL_isDisputed_121 (fun H locs hP hD hS => ?_)
                      have hP : va_P G vwCl (wW T Ad AF (upd (upd ta j 5) (32 + j) (-1)) (upd ca (32 + j) 0) fa ga D mny N f g rk rf rg rh) H := hP
                      have hD : va_D (va_A (wW T Ad AF ta ca fa ga D mny N f g rk rf rg rh) s.heap.size) (wW T Ad AF (upd (upd ta j 5) (32 + j) (-1)) (upd ca (32 + j) 0) fa ga D mny N f g rk rf rg rh) := hD
                      refine lv_aload_n hx hb dL_isDisputed_122 rfl (lv_at hl 3 rfl) ?_
                      refine lv_iconst (v := 5) hx hb dL_isDisputed_123 (by decide) ?_
                      refine lv_iload_n hx hb dL_isDisputed_124 rfl (lv_at hl 6 rfl) ?_
                      refine lv_iload hx hb dL_isDisputed_125 (lv_at hl 7 rfl) ?_
                      refine lv_iconst (v := 0) hx hb dL_isDisputed_127 (by decide) ?_
                      refine gciT (X := wX4 T Ad (upd (upd ta j 5) (32 + j) (-1)) (upd ca (32 + j) 0) fa ga) (vx_runSW (As := [.ref (Ad 1), .int 5, .int (nI i), .int (nI j), .int 0]) (rest := []) ⟨hx, hb, hml, hown, hts⟩ (cL_does_5_okc l hl0 G T Ad AF D mny N f g rk rf rg rh i j 0 _ hj16 (kDispute_ok hi6 hj16 (n1.mid c29 c37) c48)) (vx_cwSW 5 hts gL_isDisputed_L_does rfl rfl rfl (by decide +kernel) ⟨Nat.le_of_ble_eq_true rfl, Nat.le_of_ble_eq_true rfl⟩) ⟨gblind, gpreT (X := wX4 T Ad (upd (upd ta j 5) (32 + j) (-1)) (upd ca (32 + j) 0) fa ga) hE hK hP hD hS hA⟩ rfl rfl hl.1 rfl (lv_room (Nat.le_of_ble_eq_true rfl)) dL_isDisputed_128 ⟨Nat.le_of_ble_eq_true rfl, Nat.le_of_ble_eq_true rfl⟩) hP hD hS hA wC_fst (fun r9 H locs hw hP hD hS => ?_)
                      have hP : va_P G vwCl (wW T Ad AF (upd (upd ta j 5) (32 + j) (-1)) (upd ca (32 + j) 0) fa ga D mny (updA N j (upd (upd (upd (upd (N j) 6 ((N j) 0)) 0 5) 7 (nI i)) 8 (D 3))) (updA f j (fun _ => 0)) g rk rf rg rh) H := hP
                      have hD : va_D (va_A (wW T Ad AF ta ca fa ga D mny N f g rk rf rg rh) s.heap.size) (wW T Ad AF (upd (upd ta j 5) (32 + j) (-1)) (upd ca (32 + j) 0) fa ga D mny (updA N j (upd (upd (upd (upd (N j) 6 ((N j) 0)) 0 5) 7 (nI i)) 8 (D 3))) (updA f j (fun _ => 0)) g rk rf rg rh) := hD
                      subst hw
                      refine lv_iload hx hb dL_isDisputed_131 (lv_at hl 0 rfl) ?_
                      refine lv_icmp_ne (tgt := 140) hx hb dL_isDisputed_133 (by decide) (fun c133 => ?_) (fun c133 => ?_)
                      · exact absurd rfl c133
                      · skip
                        refine lv_iconst (v := 1) hx hb dL_isDisputed_136 (by decide) ?_
                        refine lv_goto (tgt := 141) hx hb dL_isDisputed_137 (by decide) ?_
                        have hI9 : INV d a D mny (updA N j (upd (upd (upd (upd (N j) 6 ((N j) 0)) 0 5) 7 (nI i)) 8 (D 3))) (updA f j (fun _ => 0)) rk rf rg rh (upd (upd ta j 5) (32 + j) (-1)) (upd ca (32 + j) 0) fa ga := INV.dispute hI hj16 hi6 (n1.mid c29 c37) c48 (by rw [if_neg c100])
                        exact W.zret (v := 1) hx hb hr (by decide) (fun w9 ht9 hW => ⟨⟨1, (D, mny, (updA N j (upd (upd (upd (upd (N j) 6 ((N j) 0)) 0 5) 7 (nI i)) 8 (D 3))), (updA f j (fun _ => 0)), g, rk, rf, rg, rh, (upd (upd ta j 5) (32 + j) (-1)), (upd ca (32 + j) 0), fa, ga), rfl, ⟨rfl, hI9⟩, gBi ht9 (gfin hP (rfl))⟩, hS.F ht9⟩) hS.2.2 dL_isDisputed_141
                    · skip
                      refine lv_iconst (v := 1) hx hb dL_isDisputed_103 (by decide) ?_
                      refine lv_goto (tgt := 108) hx hb dL_isDisputed_104 (by decide) ?_
                      refine giast (j := (32 + j)) hx hb hK hP hD hS 1 0 rfl rfl (show (nI (32 + j) : Int32) = nI (32 + j) from rfl) (by omega) (by decide) dL_isDisputed_108 (fun H locs hP hD hS => ?_)
                      have hP : va_P G vwCl (wW T Ad AF ta (upd ca (32 + j) 1) fa ga D mny N f g rk rf rg rh) H := hP
                      have hD : va_D (va_A (wW T Ad AF ta ca fa ga D mny N f g rk rf rg rh) s.heap.size) (wW T Ad AF ta (upd ca (32 + j) 1) fa ga D mny N f g rk rf rg rh) := hD
                      refine lv_aload_n hx hb dL_isDisputed_109 rfl (lv_at hl 4 rfl) ?_
                      refine lv_iload hx hb dL_isDisputed_110 (lv_at hl 7 rfl) ?_
                      refine lv_iconst (v := 5) hx hb dL_isDisputed_112 (by decide) ?_
                      refine giast (j := j) hx hb hK hP hD hS 0 0 rfl rfl (show (nI j : Int32) = nI j from rfl) (by omega) (by decide) dL_isDisputed_113 (fun H locs hP hD hS => ?_)
                      have hP : va_P G vwCl (wW T Ad AF (upd ta j 5) (upd ca (32 + j) 1) fa ga D mny N f g rk rf rg rh) H := hP
                      have hD : va_D (va_A (wW T Ad AF ta ca fa ga D mny N f g rk rf rg rh) s.heap.size) (wW T Ad AF (upd ta j 5) (upd ca (32 + j) 1) fa ga D mny N f g rk rf rg rh) := hD
                      refine lv_aload_n hx hb dL_isDisputed_114 rfl (lv_at hl 4 rfl) ?_
                      refine lv_bipush (v := 32) hx hb dL_isDisputed_115 (by decide) ?_
                      refine lv_iload hx hb dL_isDisputed_117 (lv_at hl 7 rfl) ?_
                      refine lv_iadd hx hb dL_isDisputed_119 ?_
                      refine gtop (y := nI (32 + j)) (nI_add 32 j) ?_
                      refine lv_iconst (v := (-1)) hx hb dL_isDisputed_120 (by decide) ?_
                      refine giast (j := (32 + j)) hx hb hK hP hD hS 0 0 rfl rfl (show (nI (32 + j) : Int32) = nI (32 + j) from rfl) (by omega) (by decide) dL_isDisputed_121 (fun H locs hP hD hS => ?_)
                      have hP : va_P G vwCl (wW T Ad AF (upd (upd ta j 5) (32 + j) (-1)) (upd ca (32 + j) 1) fa ga D mny N f g rk rf rg rh) H := hP
                      have hD : va_D (va_A (wW T Ad AF ta ca fa ga D mny N f g rk rf rg rh) s.heap.size) (wW T Ad AF (upd (upd ta j 5) (32 + j) (-1)) (upd ca (32 + j) 1) fa ga D mny N f g rk rf rg rh) := hD
                      refine lv_aload_n hx hb dL_isDisputed_122 rfl (lv_at hl 3 rfl) ?_
                      refine lv_iconst (v := 5) hx hb dL_isDisputed_123 (by decide) ?_
                      refine lv_iload_n hx hb dL_isDisputed_124 rfl (lv_at hl 6 rfl) ?_
                      refine lv_iload hx hb dL_isDisputed_125 (lv_at hl 7 rfl) ?_
                      refine lv_iconst (v := 0) hx hb dL_isDisputed_127 (by decide) ?_
                      refine gciT (X := wX4 T Ad (upd (upd ta j 5) (32 + j) (-1)) (upd ca (32 + j) 1) fa ga) (vx_runSW (As := [.ref (Ad 1), .int 5, .int (nI i), .int (nI j), .int 0]) (rest := []) ⟨hx, hb, hml, hown, hts⟩ (cL_does_5_okc l hl0 G T Ad AF D mny N f g rk rf rg rh i j 0 _ hj16 (kDispute_ok hi6 hj16 (n1.mid c29 c37) c48)) (vx_cwSW 5 hts gL_isDisputed_L_does rfl rfl rfl (by decide +kernel) ⟨Nat.le_of_ble_eq_true rfl, Nat.le_of_ble_eq_true rfl⟩) ⟨gblind, gpreT (X := wX4 T Ad (upd (upd ta j 5) (32 + j) (-1)) (upd ca (32 + j) 1) fa ga) hE hK hP hD hS hA⟩ rfl rfl hl.1 rfl (lv_room (Nat.le_of_ble_eq_true rfl)) dL_isDisputed_128 ⟨Nat.le_of_ble_eq_true rfl, Nat.le_of_ble_eq_true rfl⟩) hP hD hS hA wC_fst (fun r9 H locs hw hP hD hS => ?_)
                      have hP : va_P G vwCl (wW T Ad AF (upd (upd ta j 5) (32 + j) (-1)) (upd ca (32 + j) 1) fa ga D mny (updA N j (upd (upd (upd (upd (N j) 6 ((N j) 0)) 0 5) 7 (nI i)) 8 (D 3))) (updA f j (fun _ => 0)) g rk rf rg rh) H := hP
                      have hD : va_D (va_A (wW T Ad AF ta ca fa ga D mny N f g rk rf rg rh) s.heap.size) (wW T Ad AF (upd (upd ta j 5) (32 + j) (-1)) (upd ca (32 + j) 1) fa ga D mny (updA N j (upd (upd (upd (upd (N j) 6 ((N j) 0)) 0 5) 7 (nI i)) 8 (D 3))) (updA f j (fun _ => 0)) g rk rf rg rh) := hD
                      subst hw
                      refine lv_iload hx hb dL_isDisputed_131 (lv_at hl 0 rfl) ?_
                      refine lv_icmp_ne (tgt := 140) hx hb dL_isDisputed_133 (by decide) (fun c133 => ?_) (fun c133 => ?_)
                      · exact absurd rfl c133
                      · skip
                        refine lv_iconst (v := 1) hx hb dL_isDisputed_136 (by decide) ?_
                        refine lv_goto (tgt := 141) hx hb dL_isDisputed_137 (by decide) ?_
                        have hI9 : INV d a D mny (updA N j (upd (upd (upd (upd (N j) 6 ((N j) 0)) 0 5) 7 (nI i)) 8 (D 3))) (updA f j (fun _ => 0)) rk rf rg rh (upd (upd ta j 5) (32 + j) (-1)) (upd ca (32 + j) 1) fa ga := INV.dispute hI hj16 hi6 (n1.mid c29 c37) c48 (by rw [if_pos c100])
                        exact W.zret (v := 1) hx hb hr (by decide) (fun w9 ht9 hW => ⟨⟨1, (D, mny, (updA N j (upd (upd (upd (upd (N j) 6 ((N j) 0)) 0 5) 7 (nI i)) 8 (D 3))), (updA f j (fun _ => 0)), g, rk, rf, rg, rh, (upd (upd ta j 5) (32 + j) (-1)), (upd ca (32 + j) 1), fa, ga), rfl, ⟨rfl, hI9⟩, gBi ht9 (gfin hP (rfl))⟩, hS.F ht9⟩) hS.2.2 dL_isDisputed_141
              · exact absurd c60 (by decide)
