/-! THE LAW'S METHODS: isBid -/
theorem sBidN_1 {N D : Nat → Int32} (h : N 0 = 1) : sBidN N D = N := by rw [sBidN, if_neg (by rw [h]; decide)]
/-- what a bid makes of a name -/
theorem bid_B {d : Nat} {N f D : Nat → Int32} (h : NI d N f) (h0 : N 0 = 0 ∨ N 0 = 1) (hD : D 3 = nI d) : sBidN N D 0 = 1 ∧ sBidN N D 1 = -1 ∧ (∃ e : Nat, d < e ∧ e ≤ d + 5 ∧ sBidN N D 2 = nI e) ∧ sBidN N D 4 = N 4 := by
  rcases h0 with h0 | h0
  · obtain ⟨h1, -⟩ := h.at0 h0
    rw [sBidN, if_pos h0]
    exact ⟨rfl, h1, ⟨d + 5, by omega, by omega, (show upd (upd N 0 1) 2 (D 3 + 5) 2 = D 3 + 5 from rfl).trans (by rw [hD]; exact nI_add d 5)⟩, rfl⟩
  · obtain ⟨h1, -, e, e1, e2, e3⟩ := h.at1 h0
    rw [sBidN_1 h0]
    exact ⟨h0, h1, ⟨e, e1, e2, e3⟩, rfl⟩
theorem B6.put {f : Nat → Int32} {k x : Nat} (h : Z6 f ∨ B6 f) (hk : k < 6) (h1 : 10 ≤ x) (h2 : x < 400) : B6 (upd f k (nI x)) := by
  refine ⟨fun i hi => ?_, k, hk, ?_⟩
  · by_cases hik : i = k
    · rw [hik, upd_at]
      exact Or.inr ⟨x, h1, h2, rfl⟩
    · rw [upd_no hik]
      rcases h with h | h
      · exact Or.inl (h i hi)
      · exact h.1 i hi
  · rw [upd_at]
    exact nI_ne0 (by omega) (by omega)
theorem INV.bid {d a i j x : Nat} {D mny D2 : Nat → Int32} {N f N2 f2 : Nat → Nat → Int32} {rk rf rg rh : Nat → Nat → Int32} {t c F G t2 : Nat → Int32} (h : INV d a D mny N f rk rf rg rh t c F G) (hj : j < 16) (hi : i < 6) (h1 : 10 ≤ x) (h2 : x < 400) (h0 : N j 0 = 0 ∨ N j 0 = 1)
    (hD3 : D2 3 = D 3) (hD4 : D2 4 = D 4) (hN : ∀ k, ¬ k = j → N2 k = N k) (hf : ∀ k, ¬ k = j → f2 k = f k) (hNj : N2 j = sBidN (N j) D) (hfj : f2 j = upd (upd (f j) i (nI x)) i (nI x))
    (ht : t2 = upd (upd t j 1) (32 + j) (sBidN (N j) D 2)) : INV d a D2 mny N2 f2 rk rf rg rh t2 c F G := by
  obtain ⟨i1, i2, i3, i4, i5, i6, i7⟩ := id h
  obtain ⟨n1, n2⟩ := i5 j hj
  obtain ⟨b0, b1, ⟨e, e1, e2, e3⟩, b4⟩ := bid_B n1 h0 i1
  subst ht
  refine INV.one h hD3 (i3.same hD4) rfl i4 rfl hN hf (fun k hk hne => ⟨?_, ?_, ?_, rfl, rfl, rfl⟩) ?_ ?_
  · rw [upd_no (by omega), upd_no (by omega)]
  · rw [upd_no (by omega), upd_no (by omega)]
  · rw [upd_no (by omega), upd_no (by omega)]
  · rw [hNj, hfj]
    refine NI.mk1 b0 b1 (B6.put (Or.inr (B6.put ?_ hi h1 h2)) hi h1 h2) e1 e2 e3
    rcases h0 with h0 | h0
    · exact Or.inl (n1.at0 h0).2
    · exact Or.inr (n1.at1 h0).2.1
  · rw [hNj]
    obtain ⟨-, n3, -, -, -, r, r1, r2⟩ := n2
    refine ⟨?_, ?_, ?_, fun z => ?_, fun z => ?_, r, r1, b4.trans r2⟩
    · rw [upd_no (by omega), upd_at, b0]
    · rw [upd_no (by omega), upd_no (by omega), b1, n3]
      rcases h0 with h0 | h0
      · exact (n1.at0 h0).1
      · exact (n1.at1 h0).1
    · rw [upd_at, sDay_1 b0]
    · exact absurd (sRec_0 (s := 1) (by omega) b0 (by omega)) z
    · exact absurd (b0.symm.trans z) (by decide)
abbrev PL_isBid (G : va_G) (T : Nat → ClassId) (Ad : Nat → Nat) (AF : Nat → Nat → Nat) (D mny : Nat → Int32) (N f g : Nat → Nat → Int32) (rk rf rg rh : Nat → Nat → Int32) (ta ca fa ga : Nat → Int32) (i j x d a : Nat) (sz : Nat) : Array Value → State → Prop := gPc G T [.ref (Ad 1), .ref (Ad 5), .ref (Ad 8), .int (nI i), .int (nI j), .int (nI x)] (wW T Ad AF ta ca fa ga D mny N f g rk rf rg rh) sz
abbrev QL_isBid (G : va_G) (T : Nat → ClassId) (Ad : Nat → Nat) (AF : Nat → Nat → Nat) (D mny : Nat → Int32) (N f g : Nat → Nat → Int32) (rk rf rg rh : Nat → Nat → Int32) (ta ca fa ga : Nat → Int32) (i j x d a : Nat) (sz : Nat) : Array Value → State → Outcome → State → Prop := va_Qi (fun (r : Int32) (u : UL) => r = 1 ∧ INVu d a u) (fun (u : UL) (w9 : State) => va_P G vwCl (wW T Ad AF u.2.2.2.2.2.2.2.2.2.1 u.2.2.2.2.2.2.2.2.2.2.1 u.2.2.2.2.2.2.2.2.2.2.2.1 u.2.2.2.2.2.2.2.2.2.2.2.2 u.1 u.2.1 u.2.2.1 u.2.2.2.1 u.2.2.2.2.1 u.2.2.2.2.2.1 u.2.2.2.2.2.2.1 u.2.2.2.2.2.2.2.1 u.2.2.2.2.2.2.2.2.1) w9.heap) (va_A (wW T Ad AF ta ca fa ga D mny N f g rk rf rg rh) sz)
set_option maxHeartbeats 4000000 in
set_option maxRecDepth 100000 in
theorem kL_isBid (l : Launch) (hl0 : l.stackTraces = false) (G : va_G) (T : Nat → ClassId) (Ad : Nat → Nat) (AF : Nat → Nat → Nat) (D mny : Nat → Int32) (N f g : Nat → Nat → Int32) (rk rf rg rh : Nat → Nat → Int32) (ta ca fa ga : Nat → Int32) (i j x d a : Nat) (sz : Nat) (hI : INV d a D mny N f rk rf rg rh ta ca fa ga) (hd : d < 2 ^ 20) (ha : a < 2 ^ 20) (hi7 : i ≤ 6) (hnj : j < 4 ∨ j = 16) (hx0 : 9 ≤ x ∧ x ≤ 309) : Met l yL_isBid wsL_isBid ({ frames := 9, cells := 12, slots := 72, locals := 152 } : Room) (PL_isBid G T Ad AF D mny N f g rk rf rg rh ta ca fa ga i j x d a sz) (QL_isBid G T Ad AF D mny N f g rk rf rg rh ta ca fa ga i j x d a sz) 12 72 (va_A (wW T Ad AF ta ca fa ga D mny N f g rk rf rg rh) sz) := by
  refine Met.ofW (cc := cL_isBid) (maxL := 10) (ret := (some .boolean)) (by decide) rfl ?_
  intro p e s m args below meth c s₁ B hml hv
  obtain ⟨rfl, hsz, hP, hK, hD0, hE⟩ := hv
  have hx := B.exec
  have hb := B.bytes
  have hr := B.returns
  have hts := atoms_spec (ws := wsL_isBid) B.pre
  have hown : s.vm.findClass RL = some m.cls := findClass_of_methodNamed B.named
  have hlocks := B.notSynchronized
  subst hsz
  have hD := hD0.self (sz := s.heap.size)
  have hA : ∀ q : Nat, s.heap.size ≤ q → (va_A (wW T Ad AF ta ca fa ga D mny N f g rk rf rg rh) s.heap.size) q := fun q h => Or.inr h
  have hS : va_S (va_A (wW T Ad AF ta ca fa ga D mny N f g rk rf rg rh) s.heap.size) s.heap s.heap [] := va_S.rf
  have hl := lv_entry ([.ref (Ad 1), .ref (Ad 5), .ref (Ad 8), .int (nI i), .int (nI j), .int (nI x)]) (n := 10) (Nat.le_of_ble_eq_true rfl)
  rw [lg_entry_eq]
  generalize (lg_sl ([.ref (Ad 1), .ref (Ad 5), .ref (Ad 8), .int (nI i), .int (nI j), .int (nI x)]) ++ List.replicate (10 - (lg_sl ([.ref (Ad 1), .ref (Ad 5), .ref (Ad 8), .int (nI i), .int (nI j), .int (nI x)])).length) Slot.unset).toArray = ls at hl ⊢
  have hl : lv_has ls 10 [(0, .ref (Ad 1)), (1, .ref (Ad 5)), (2, .ref (Ad 8)), (3, .int (nI i)), (4, .int (nI j)), (5, .int (nI x))] := hl
  obtain ⟨i1, i2, ⟨m9, p9, j1, j2, j3⟩, i4, i5, i6, i7⟩ := id hI
  have hp9 : p9 < 2 ^ 20 := Nat.lt_of_le_of_lt psum_p (by rw [j3]; exact ha)
  have hm9 : ∀ k, k < 6 → m9 k < 2 ^ 20 := fun k hk => by have := psum_le (p := p9) (m := m9) hk; omega
  have hP : va_P G vwCl (wW T Ad AF ta ca fa ga D mny N f g rk rf rg rh) s.heap := hP
  refine lv_iload_n hx hb dL_isBid_0 rfl (lv_at hl 3 rfl) ?_
  refine lv_bipush (v := 6) hx hb dL_isBid_1 (by decide) ?_
  refine lv_icmp_ge (tgt := 17) hx hb dL_isBid_3 (by decide) (fun c3 => ?_) (fun c3 => ?_)
  · skip
    have hi6 : 6 ≤ i := Nat.not_lt.mp (fun q9 => nI_ge (b := 6) q9 (by omega) c3)
    refine lv_iconst (v := 0) hx hb dL_isBid_17 (by decide) ?_
    refine lv_istore (lv' := [(6, .int 0), (0, .ref (Ad 1)), (1, .ref (Ad 5)), (2, .ref (Ad 8)), (3, .int (nI i)), (4, .int (nI j)), (5, .int (nI x))]) hx hb dL_isBid_18 hl (by decide) rfl (fun ls hl => ?_)
    refine lv_iload hx hb dL_isBid_20 (lv_at hl 6 rfl) ?_
    refine lv_bipush (v := 9) hx hb dL_isBid_22 (by decide) ?_
    refine lv_icmp_le (tgt := 38) hx hb dL_isBid_24 (by decide) (fun c24 => ?_) (fun c24 => ?_)
    · skip
      have hx9 : x ≤ 9 := Nat.not_lt.mp (fun q9 => nI_ge (a := 9) q9 (by omega) c24)
      refine lv_iconst (v := 0) hx hb dL_isBid_38 (by decide) ?_
      refine lv_istore (lv' := [(7, .int 0), (6, .int 0), (0, .ref (Ad 1)), (1, .ref (Ad 5)), (2, .ref (Ad 8)), (3, .int (nI i)), (4, .int (nI j)), (5, .int (nI x))]) hx hb dL_isBid_39 hl (by decide) rfl (fun ls hl => ?_)
      refine lv_iload hx hb dL_isBid_41 (lv_at hl 1 rfl) ?_
      refine lv_if_eq (tgt := 59) hx hb dL_isBid_43 (by decide) (fun c43 => ?_) (fun c43 => ?_)
      · skip
        refine lv_aload_n hx hb dL_isBid_59 rfl (lv_at hl 2 rfl) ?_
        refine lv_iconst (v := 1) hx hb dL_isBid_60 (by decide) ?_
        refine lv_iload_n hx hb dL_isBid_61 rfl (lv_at hl 5 rfl) ?_
        refine lv_iload hx hb dL_isBid_62 (lv_at hl 6 rfl) ?_
        refine lv_iload hx hb dL_isBid_64 (lv_at hl 7 rfl) ?_
        refine gciT (X := wX4 T Ad ta ca fa ga) (vx_runSW (As := [.ref (Ad 1), .int 1, .int (nI i), .int (nI j), .int (nI x)]) (rest := []) ⟨hx, hb, hml, hown, hts⟩ (cL_does_1_noc l hl0 G T Ad AF D mny N f g rk rf rg rh (i % 6) (j % 16) (nI i) (nI j) (nI x) _ (Nat.mod_lt _ (by decide)) (ix6 (by omega)) (ix16 (by omega)) (fun h9 => absurd (h9.symm.trans (show kBid (nI i) (nI j) (nI x) (N (j % 16)) = 1 by rw [kBid_n (by omega) (by omega) (by omega), if_neg (by omega)])) (by decide))) (vx_cwSW 5 hts gL_isBid_L_does rfl rfl rfl (by decide +kernel) ⟨Nat.le_of_ble_eq_true rfl, Nat.le_of_ble_eq_true rfl⟩) ⟨gblind, gpreT (X := wX4 T Ad ta ca fa ga) hE hK hP hD hS hA⟩ rfl rfl hl.1 rfl (lv_room (Nat.le_of_ble_eq_true rfl)) dL_isBid_66 ⟨Nat.le_of_ble_eq_true rfl, Nat.le_of_ble_eq_true rfl⟩) hP hD hS hA wC_fst (fun r9 H locs hw hP hD hS => ?_)
        have hP : va_P G vwCl (wW T Ad AF ta ca fa ga D mny N f g rk rf rg rh) H := hP
        have hD : va_D (va_A (wW T Ad AF ta ca fa ga D mny N f g rk rf rg rh) s.heap.size) (wW T Ad AF ta ca fa ga D mny N f g rk rf rg rh) := hD
        subst hw
        refine gtop (y := (-30)) (wD_30 (show kBid (nI i) (nI j) (nI x) (N (j % 16)) = 1 by rw [kBid_n (by omega) (by omega) (by omega), if_neg (by omega)])) ?_
        refine lv_iload hx hb dL_isBid_69 (lv_at hl 1 rfl) ?_
        refine lv_if_ne (tgt := 79) hx hb dL_isBid_71 (by decide) (fun c71 => ?_) (fun c71 => ?_)
        · exact absurd c71 (by decide)
        · skip
          refine lv_bipush (v := (-30)) hx hb dL_isBid_74 (by decide) ?_
          refine lv_goto (tgt := 91) hx hb dL_isBid_76 (by decide) ?_
          refine lv_icmp_ne (tgt := 98) hx hb dL_isBid_91 (by decide) (fun c91 => ?_) (fun c91 => ?_)
          · exact absurd c91 (by decide)
          · skip
            refine lv_iconst (v := 1) hx hb dL_isBid_94 (by decide) ?_
            refine lv_goto (tgt := 99) hx hb dL_isBid_95 (by decide) ?_
            refine W.widen (k := 12) (n := 72) (Nat.le_of_ble_eq_true rfl) (Nat.le_of_ble_eq_true rfl) ?_
            exact W.zret (v := 1) hx hb hr (by decide) (fun w9 ht9 hW => ⟨⟨1, (D, mny, N, f, g, rk, rf, rg, rh, ta, ca, fa, ga), rfl, ⟨rfl, hI⟩, gBi ht9 (gfin hP (rfl))⟩, hS.F ht9⟩) hS.2.2 dL_isBid_99
      · exact absurd c43 (by decide)
    · skip
      have hx9 : 9 < x := Nat.not_le.mp (fun q9 => c24 (nI_le (b := 9) q9 (by omega)))
      refine lv_iload hx hb dL_isBid_27 (lv_at hl 6 rfl) ?_
      refine lv_ldc (v := 100000) hx hb hown (hts (.constant RL 86 100000) (by decide +kernel)) dL_isBid_29 ?_
      refine lv_icmp_gt (tgt := 38) hx hb dL_isBid_31 (by decide) (fun c31 => ?_) (fun c31 => ?_)
      · exact absurd c31 (nI_nlt (a := 100000) (b := x) (by omega) (by omega))
      · skip
        refine lv_iconst (v := 1) hx hb dL_isBid_34 (by decide) ?_
        refine lv_goto (tgt := 39) hx hb dL_isBid_35 (by decide) ?_
        refine lv_istore (lv' := [(7, .int 1), (6, .int 0), (0, .ref (Ad 1)), (1, .ref (Ad 5)), (2, .ref (Ad 8)), (3, .int (nI i)), (4, .int (nI j)), (5, .int (nI x))]) hx hb dL_isBid_39 hl (by decide) rfl (fun ls hl => ?_)
        refine lv_iload hx hb dL_isBid_41 (lv_at hl 1 rfl) ?_
        refine lv_if_eq (tgt := 59) hx hb dL_isBid_43 (by decide) (fun c43 => ?_) (fun c43 => ?_)
        · skip
          refine lv_aload_n hx hb dL_isBid_59 rfl (lv_at hl 2 rfl) ?_
          refine lv_iconst (v := 1) hx hb dL_isBid_60 (by decide) ?_
          refine lv_iload_n hx hb dL_isBid_61 rfl (lv_at hl 5 rfl) ?_
          refine lv_iload hx hb dL_isBid_62 (lv_at hl 6 rfl) ?_
          refine lv_iload hx hb dL_isBid_64 (lv_at hl 7 rfl) ?_
          refine gciT (X := wX4 T Ad ta ca fa ga) (vx_runSW (As := [.ref (Ad 1), .int 1, .int (nI i), .int (nI j), .int (nI x)]) (rest := []) ⟨hx, hb, hml, hown, hts⟩ (cL_does_1_noc l hl0 G T Ad AF D mny N f g rk rf rg rh (i % 6) (j % 16) (nI i) (nI j) (nI x) _ (Nat.mod_lt _ (by decide)) (ix6 (by omega)) (ix16 (by omega)) (fun h9 => absurd (h9.symm.trans (show kBid (nI i) (nI j) (nI x) (N (j % 16)) = 1 by rw [kBid_n (by omega) (by omega) (by omega), if_neg (by omega)])) (by decide))) (vx_cwSW 5 hts gL_isBid_L_does rfl rfl rfl (by decide +kernel) ⟨Nat.le_of_ble_eq_true rfl, Nat.le_of_ble_eq_true rfl⟩) ⟨gblind, gpreT (X := wX4 T Ad ta ca fa ga) hE hK hP hD hS hA⟩ rfl rfl hl.1 rfl (lv_room (Nat.le_of_ble_eq_true rfl)) dL_isBid_66 ⟨Nat.le_of_ble_eq_true rfl, Nat.le_of_ble_eq_true rfl⟩) hP hD hS hA wC_fst (fun r9 H locs hw hP hD hS => ?_)
          have hP : va_P G vwCl (wW T Ad AF ta ca fa ga D mny N f g rk rf rg rh) H := hP
          have hD : va_D (va_A (wW T Ad AF ta ca fa ga D mny N f g rk rf rg rh) s.heap.size) (wW T Ad AF ta ca fa ga D mny N f g rk rf rg rh) := hD
          subst hw
          refine gtop (y := (-30)) (wD_30 (show kBid (nI i) (nI j) (nI x) (N (j % 16)) = 1 by rw [kBid_n (by omega) (by omega) (by omega), if_neg (by omega)])) ?_
          refine lv_iload hx hb dL_isBid_69 (lv_at hl 1 rfl) ?_
          refine lv_if_ne (tgt := 79) hx hb dL_isBid_71 (by decide) (fun c71 => ?_) (fun c71 => ?_)
          · exact absurd c71 (by decide)
          · skip
            refine lv_bipush (v := (-30)) hx hb dL_isBid_74 (by decide) ?_
            refine lv_goto (tgt := 91) hx hb dL_isBid_76 (by decide) ?_
            refine lv_icmp_ne (tgt := 98) hx hb dL_isBid_91 (by decide) (fun c91 => ?_) (fun c91 => ?_)
            · exact absurd c91 (by decide)
            · skip
              refine lv_iconst (v := 1) hx hb dL_isBid_94 (by decide) ?_
              refine lv_goto (tgt := 99) hx hb dL_isBid_95 (by decide) ?_
              refine W.widen (k := 12) (n := 72) (Nat.le_of_ble_eq_true rfl) (Nat.le_of_ble_eq_true rfl) ?_
              exact W.zret (v := 1) hx hb hr (by decide) (fun w9 ht9 hW => ⟨⟨1, (D, mny, N, f, g, rk, rf, rg, rh, ta, ca, fa, ga), rfl, ⟨rfl, hI⟩, gBi ht9 (gfin hP (rfl))⟩, hS.F ht9⟩) hS.2.2 dL_isBid_99
        · exact absurd c43 (by decide)
  · skip
    have hi6 : i < 6 := Nat.not_le.mp (fun q9 => c3 (nI_le (a := 6) q9 (by omega)))
    refine lv_iload hx hb dL_isBid_6 (lv_at hl 4 rfl) ?_
    refine lv_bipush (v := 16) hx hb dL_isBid_8 (by decide) ?_
    refine lv_icmp_ge (tgt := 17) hx hb dL_isBid_10 (by decide) (fun c10 => ?_) (fun c10 => ?_)
    · skip
      have hj9 : 16 ≤ j := Nat.not_lt.mp (fun q9 => nI_ge (b := 16) q9 (by omega) c10)
      refine lv_iconst (v := 0) hx hb dL_isBid_17 (by decide) ?_
      refine lv_istore (lv' := [(6, .int 0), (0, .ref (Ad 1)), (1, .ref (Ad 5)), (2, .ref (Ad 8)), (3, .int (nI i)), (4, .int (nI j)), (5, .int (nI x))]) hx hb dL_isBid_18 hl (by decide) rfl (fun ls hl => ?_)
      refine lv_iload hx hb dL_isBid_20 (lv_at hl 6 rfl) ?_
      refine lv_bipush (v := 9) hx hb dL_isBid_22 (by decide) ?_
      refine lv_icmp_le (tgt := 38) hx hb dL_isBid_24 (by decide) (fun c24 => ?_) (fun c24 => ?_)
      · skip
        have hx9 : x ≤ 9 := Nat.not_lt.mp (fun q9 => nI_ge (a := 9) q9 (by omega) c24)
        refine lv_iconst (v := 0) hx hb dL_isBid_38 (by decide) ?_
        refine lv_istore (lv' := [(7, .int 0), (6, .int 0), (0, .ref (Ad 1)), (1, .ref (Ad 5)), (2, .ref (Ad 8)), (3, .int (nI i)), (4, .int (nI j)), (5, .int (nI x))]) hx hb dL_isBid_39 hl (by decide) rfl (fun ls hl => ?_)
        refine lv_iload hx hb dL_isBid_41 (lv_at hl 1 rfl) ?_
        refine lv_if_eq (tgt := 59) hx hb dL_isBid_43 (by decide) (fun c43 => ?_) (fun c43 => ?_)
        · skip
          refine lv_aload_n hx hb dL_isBid_59 rfl (lv_at hl 2 rfl) ?_
          refine lv_iconst (v := 1) hx hb dL_isBid_60 (by decide) ?_
          refine lv_iload_n hx hb dL_isBid_61 rfl (lv_at hl 5 rfl) ?_
          refine lv_iload hx hb dL_isBid_62 (lv_at hl 6 rfl) ?_
          refine lv_iload hx hb dL_isBid_64 (lv_at hl 7 rfl) ?_
          refine gciT (X := wX4 T Ad ta ca fa ga) (vx_runSW (As := [.ref (Ad 1), .int 1, .int (nI i), .int (nI j), .int (nI x)]) (rest := []) ⟨hx, hb, hml, hown, hts⟩ (cL_does_1_noc l hl0 G T Ad AF D mny N f g rk rf rg rh (i % 6) (j % 16) (nI i) (nI j) (nI x) _ (Nat.mod_lt _ (by decide)) (ix6 (by omega)) (ix16 (by omega)) (fun h9 => absurd (h9.symm.trans (show kBid (nI i) (nI j) (nI x) (N (j % 16)) = 1 by rw [kBid_n (by omega) (by omega) (by omega), if_pos (by omega), if_neg (by omega)])) (by decide))) (vx_cwSW 5 hts gL_isBid_L_does rfl rfl rfl (by decide +kernel) ⟨Nat.le_of_ble_eq_true rfl, Nat.le_of_ble_eq_true rfl⟩) ⟨gblind, gpreT (X := wX4 T Ad ta ca fa ga) hE hK hP hD hS hA⟩ rfl rfl hl.1 rfl (lv_room (Nat.le_of_ble_eq_true rfl)) dL_isBid_66 ⟨Nat.le_of_ble_eq_true rfl, Nat.le_of_ble_eq_true rfl⟩) hP hD hS hA wC_fst (fun r9 H locs hw hP hD hS => ?_)
          have hP : va_P G vwCl (wW T Ad AF ta ca fa ga D mny N f g rk rf rg rh) H := hP
          have hD : va_D (va_A (wW T Ad AF ta ca fa ga D mny N f g rk rf rg rh) s.heap.size) (wW T Ad AF ta ca fa ga D mny N f g rk rf rg rh) := hD
          subst hw
          refine gtop (y := (-30)) (wD_30 (show kBid (nI i) (nI j) (nI x) (N (j % 16)) = 1 by rw [kBid_n (by omega) (by omega) (by omega), if_pos (by omega), if_neg (by omega)])) ?_
          refine lv_iload hx hb dL_isBid_69 (lv_at hl 1 rfl) ?_
          refine lv_if_ne (tgt := 79) hx hb dL_isBid_71 (by decide) (fun c71 => ?_) (fun c71 => ?_)
          · exact absurd c71 (by decide)
          · skip
            refine lv_bipush (v := (-30)) hx hb dL_isBid_74 (by decide) ?_
            refine lv_goto (tgt := 91) hx hb dL_isBid_76 (by decide) ?_
            refine lv_icmp_ne (tgt := 98) hx hb dL_isBid_91 (by decide) (fun c91 => ?_) (fun c91 => ?_)
            · exact absurd c91 (by decide)
            · skip
              refine lv_iconst (v := 1) hx hb dL_isBid_94 (by decide) ?_
              refine lv_goto (tgt := 99) hx hb dL_isBid_95 (by decide) ?_
              refine W.widen (k := 12) (n := 72) (Nat.le_of_ble_eq_true rfl) (Nat.le_of_ble_eq_true rfl) ?_
              exact W.zret (v := 1) hx hb hr (by decide) (fun w9 ht9 hW => ⟨⟨1, (D, mny, N, f, g, rk, rf, rg, rh, ta, ca, fa, ga), rfl, ⟨rfl, hI⟩, gBi ht9 (gfin hP (rfl))⟩, hS.F ht9⟩) hS.2.2 dL_isBid_99
        · exact absurd c43 (by decide)
      · skip
        have hx9 : 9 < x := Nat.not_le.mp (fun q9 => c24 (nI_le (b := 9) q9 (by omega)))
        refine lv_iload hx hb dL_isBid_27 (lv_at hl 6 rfl) ?_
        refine lv_ldc (v := 100000) hx hb hown (hts (.constant RL 86 100000) (by decide +kernel)) dL_isBid_29 ?_
        refine lv_icmp_gt (tgt := 38) hx hb dL_isBid_31 (by decide) (fun c31 => ?_) (fun c31 => ?_)
        · exact absurd c31 (nI_nlt (a := 100000) (b := x) (by omega) (by omega))
        · skip
          refine lv_iconst (v := 1) hx hb dL_isBid_34 (by decide) ?_
          refine lv_goto (tgt := 39) hx hb dL_isBid_35 (by decide) ?_
          refine lv_istore (lv' := [(7, .int 1), (6, .int 0), (0, .ref (Ad 1)), (1, .ref (Ad 5)), (2, .ref (Ad 8)), (3, .int (nI i)), (4, .int (nI j)), (5, .int (nI x))]) hx hb dL_isBid_39 hl (by decide) rfl (fun ls hl => ?_)
          refine lv_iload hx hb dL_isBid_41 (lv_at hl 1 rfl) ?_
          refine lv_if_eq (tgt := 59) hx hb dL_isBid_43 (by decide) (fun c43 => ?_) (fun c43 => ?_)
          · skip
            refine lv_aload_n hx hb dL_isBid_59 rfl (lv_at hl 2 rfl) ?_
            refine lv_iconst (v := 1) hx hb dL_isBid_60 (by decide) ?_
            refine lv_iload_n hx hb dL_isBid_61 rfl (lv_at hl 5 rfl) ?_
            refine lv_iload hx hb dL_isBid_62 (lv_at hl 6 rfl) ?_
            refine lv_iload hx hb dL_isBid_64 (lv_at hl 7 rfl) ?_
            refine gciT (X := wX4 T Ad ta ca fa ga) (vx_runSW (As := [.ref (Ad 1), .int 1, .int (nI i), .int (nI j), .int (nI x)]) (rest := []) ⟨hx, hb, hml, hown, hts⟩ (cL_does_1_noc l hl0 G T Ad AF D mny N f g rk rf rg rh (i % 6) (j % 16) (nI i) (nI j) (nI x) _ (Nat.mod_lt _ (by decide)) (ix6 (by omega)) (ix16 (by omega)) (fun h9 => absurd (h9.symm.trans (show kBid (nI i) (nI j) (nI x) (N (j % 16)) = 1 by rw [kBid_n (by omega) (by omega) (by omega), if_pos (by omega), if_neg (by omega)])) (by decide))) (vx_cwSW 5 hts gL_isBid_L_does rfl rfl rfl (by decide +kernel) ⟨Nat.le_of_ble_eq_true rfl, Nat.le_of_ble_eq_true rfl⟩) ⟨gblind, gpreT (X := wX4 T Ad ta ca fa ga) hE hK hP hD hS hA⟩ rfl rfl hl.1 rfl (lv_room (Nat.le_of_ble_eq_true rfl)) dL_isBid_66 ⟨Nat.le_of_ble_eq_true rfl, Nat.le_of_ble_eq_true rfl⟩) hP hD hS hA wC_fst (fun r9 H locs hw hP hD hS => ?_)
            have hP : va_P G vwCl (wW T Ad AF ta ca fa ga D mny N f g rk rf rg rh) H := hP
            have hD : va_D (va_A (wW T Ad AF ta ca fa ga D mny N f g rk rf rg rh) s.heap.size) (wW T Ad AF ta ca fa ga D mny N f g rk rf rg rh) := hD
            subst hw
            refine gtop (y := (-30)) (wD_30 (show kBid (nI i) (nI j) (nI x) (N (j % 16)) = 1 by rw [kBid_n (by omega) (by omega) (by omega), if_pos (by omega), if_neg (by omega)])) ?_
            refine lv_iload hx hb dL_isBid_69 (lv_at hl 1 rfl) ?_
            refine lv_if_ne (tgt := 79) hx hb dL_isBid_71 (by decide) (fun c71 => ?_) (fun c71 => ?_)
            · exact absurd c71 (by decide)
            · skip
              refine lv_bipush (v := (-30)) hx hb dL_isBid_74 (by decide) ?_
              refine lv_goto (tgt := 91) hx hb dL_isBid_76 (by decide) ?_
              refine lv_icmp_ne (tgt := 98) hx hb dL_isBid_91 (by decide) (fun c91 => ?_) (fun c91 => ?_)
              · exact absurd c91 (by decide)
              · skip
                refine lv_iconst (v := 1) hx hb dL_isBid_94 (by decide) ?_
                refine lv_goto (tgt := 99) hx hb dL_isBid_95 (by decide) ?_
                refine W.widen (k := 12) (n := 72) (Nat.le_of_ble_eq_true rfl) (Nat.le_of_ble_eq_true rfl) ?_
                exact W.zret (v := 1) hx hb hr (by decide) (fun w9 ht9 hW => ⟨⟨1, (D, mny, N, f, g, rk, rf, rg, rh, ta, ca, fa, ga), rfl, ⟨rfl, hI⟩, gBi ht9 (gfin hP (rfl))⟩, hS.F ht9⟩) hS.2.2 dL_isBid_99
          · exact absurd c43 (by decide)
    · skip
      have hj16 : j < 16 := Nat.not_le.mp (fun q9 => c10 (nI_le (a := 16) q9 (by omega)))
      obtain ⟨n1, n2⟩ := i5 j hj16
      refine lv_iconst (v := 1) hx hb dL_isBid_13 (by decide) ?_
      refine lv_goto (tgt := 18) hx hb dL_isBid_14 (by decide) ?_
      refine lv_istore (lv' := [(6, .int 1), (0, .ref (Ad 1)), (1, .ref (Ad 5)), (2, .ref (Ad 8)), (3, .int (nI i)), (4, .int (nI j)), (5, .int (nI x))]) hx hb dL_isBid_18 hl (by decide) rfl (fun ls hl => ?_)
      refine lv_iload hx hb dL_isBid_20 (lv_at hl 6 rfl) ?_
      refine lv_bipush (v := 9) hx hb dL_isBid_22 (by decide) ?_
      refine lv_icmp_le (tgt := 38) hx hb dL_isBid_24 (by decide) (fun c24 => ?_) (fun c24 => ?_)
      · skip
        have hx9 : x ≤ 9 := Nat.not_lt.mp (fun q9 => nI_ge (a := 9) q9 (by omega) c24)
        refine lv_iconst (v := 0) hx hb dL_isBid_38 (by decide) ?_
        refine lv_istore (lv' := [(7, .int 0), (6, .int 1), (0, .ref (Ad 1)), (1, .ref (Ad 5)), (2, .ref (Ad 8)), (3, .int (nI i)), (4, .int (nI j)), (5, .int (nI x))]) hx hb dL_isBid_39 hl (by decide) rfl (fun ls hl => ?_)
        refine lv_iload hx hb dL_isBid_41 (lv_at hl 1 rfl) ?_
        refine lv_if_eq (tgt := 59) hx hb dL_isBid_43 (by decide) (fun c43 => ?_) (fun c43 => ?_)
        · exact absurd c43 (by decide)
        · skip
          refine lv_iload hx hb dL_isBid_46 (lv_at hl 0 rfl) ?_
          refine lv_if_eq (tgt := 59) hx hb dL_isBid_48 (by decide) (fun c48 => ?_) (fun c48 => ?_)
          · skip
            refine lv_aload_n hx hb dL_isBid_59 rfl (lv_at hl 2 rfl) ?_
            refine lv_iconst (v := 1) hx hb dL_isBid_60 (by decide) ?_
            refine lv_iload_n hx hb dL_isBid_61 rfl (lv_at hl 5 rfl) ?_
            refine lv_iload hx hb dL_isBid_62 (lv_at hl 6 rfl) ?_
            refine lv_iload hx hb dL_isBid_64 (lv_at hl 7 rfl) ?_
            refine gciT (X := wX4 T Ad ta ca fa ga) (vx_runSW (As := [.ref (Ad 1), .int 1, .int (nI i), .int (nI j), .int (nI x)]) (rest := []) ⟨hx, hb, hml, hown, hts⟩ (cL_does_1_noc l hl0 G T Ad AF D mny N f g rk rf rg rh i j (nI i) (nI j) (nI x) _ hj16 (fun _ => ⟨rfl, hi6⟩) (fun _ => ⟨rfl, hj16⟩) (fun h9 => absurd (h9.symm.trans (show kBid (nI i) (nI j) (nI x) (N j) = 2 by rw [kBid_n (by omega) (by omega) (by omega), if_pos hi6, if_pos hj16, if_neg (by omega)])) (by decide))) (vx_cwSW 5 hts gL_isBid_L_does rfl rfl rfl (by decide +kernel) ⟨Nat.le_of_ble_eq_true rfl, Nat.le_of_ble_eq_true rfl⟩) ⟨gblind, gpreT (X := wX4 T Ad ta ca fa ga) hE hK hP hD hS hA⟩ rfl rfl hl.1 rfl (lv_room (Nat.le_of_ble_eq_true rfl)) dL_isBid_66 ⟨Nat.le_of_ble_eq_true rfl, Nat.le_of_ble_eq_true rfl⟩) hP hD hS hA wC_fst (fun r9 H locs hw hP hD hS => ?_)
            have hP : va_P G vwCl (wW T Ad AF ta ca fa ga D mny N f g rk rf rg rh) H := hP
            have hD : va_D (va_A (wW T Ad AF ta ca fa ga D mny N f g rk rf rg rh) s.heap.size) (wW T Ad AF ta ca fa ga D mny N f g rk rf rg rh) := hD
            subst hw
            refine gtop (y := (-20)) (wD_20 (show kBid (nI i) (nI j) (nI x) (N j) = 2 by rw [kBid_n (by omega) (by omega) (by omega), if_pos hi6, if_pos hj16, if_neg (by omega)])) ?_
            refine lv_iload hx hb dL_isBid_69 (lv_at hl 1 rfl) ?_
            refine lv_if_ne (tgt := 79) hx hb dL_isBid_71 (by decide) (fun c71 => ?_) (fun c71 => ?_)
            · skip
              refine lv_iload hx hb dL_isBid_79 (lv_at hl 0 rfl) ?_
              refine lv_if_ne (tgt := 89) hx hb dL_isBid_81 (by decide) (fun c81 => ?_) (fun c81 => ?_)
              · exact absurd c81 (by decide)
              · skip
                refine lv_bipush (v := (-20)) hx hb dL_isBid_84 (by decide) ?_
                refine lv_goto (tgt := 91) hx hb dL_isBid_86 (by decide) ?_
                refine lv_icmp_ne (tgt := 98) hx hb dL_isBid_91 (by decide) (fun c91 => ?_) (fun c91 => ?_)
                · exact absurd c91 (by decide)
                · skip
                  refine lv_iconst (v := 1) hx hb dL_isBid_94 (by decide) ?_
                  refine lv_goto (tgt := 99) hx hb dL_isBid_95 (by decide) ?_
                  refine W.widen (k := 12) (n := 72) (Nat.le_of_ble_eq_true rfl) (Nat.le_of_ble_eq_true rfl) ?_
                  exact W.zret (v := 1) hx hb hr (by decide) (fun w9 ht9 hW => ⟨⟨1, (D, mny, N, f, g, rk, rf, rg, rh, ta, ca, fa, ga), rfl, ⟨rfl, hI⟩, gBi ht9 (gfin hP (rfl))⟩, hS.F ht9⟩) hS.2.2 dL_isBid_99
            · exact absurd c71 (by decide)
          · exact absurd c48 (by decide)
      · skip
        have hx9 : 9 < x := Nat.not_le.mp (fun q9 => c24 (nI_le (b := 9) q9 (by omega)))
        refine lv_iload hx hb dL_isBid_27 (lv_at hl 6 rfl) ?_
        refine lv_ldc (v := 100000) hx hb hown (hts (.constant RL 86 100000) (by decide +kernel)) dL_isBid_29 ?_
        refine lv_icmp_gt (tgt := 38) hx hb dL_isBid_31 (by decide) (fun c31 => ?_) (fun c31 => ?_)
        · exact absurd c31 (nI_nlt (a := 100000) (b := x) (by omega) (by omega))
        · skip
          refine lv_iconst (v := 1) hx hb dL_isBid_34 (by decide) ?_
          refine lv_goto (tgt := 39) hx hb dL_isBid_35 (by decide) ?_
          refine lv_istore (lv' := [(7, .int 1), (6, .int 1), (0, .ref (Ad 1)), (1, .ref (Ad 5)), (2, .ref (Ad 8)), (3, .int (nI i)), (4, .int (nI j)), (5, .int (nI x))]) hx hb dL_isBid_39 hl (by decide) rfl (fun ls hl => ?_)
          refine lv_iload hx hb dL_isBid_41 (lv_at hl 1 rfl) ?_
          refine lv_if_eq (tgt := 59) hx hb dL_isBid_43 (by decide) (fun c43 => ?_) (fun c43 => ?_)
          · exact absurd c43 (by decide)
          · skip
            refine lv_iload hx hb dL_isBid_46 (lv_at hl 0 rfl) ?_
            refine lv_if_eq (tgt := 59) hx hb dL_isBid_48 (by decide) (fun c48 => ?_) (fun c48 => ?_)
            · exact absurd c48 (by decide)
            · skip
              refine lv_aload_n hx hb dL_isBid_51 rfl (lv_at hl 3 rfl) ?_
              refine lv_iload hx hb dL_isBid_52 (lv_at hl 6 rfl) ?_
              refine giald (j := j) hx hb hK hP 0 0 rfl rfl (show (nI j : Int32) = nI j from rfl) (by omega) (by decide) dL_isBid_54 ?_
              refine gtop (y := N j 0) n2.1 ?_
              refine lv_iconst (v := 1) hx hb dL_isBid_55 (by decide) ?_
              refine lv_icmp_le (tgt := 100) hx hb dL_isBid_56 (by decide) (fun c56 => ?_) (fun c56 => ?_)
              · skip
                refine lv_aload_n hx hb dL_isBid_100 rfl (lv_at hl 2 rfl) ?_
                refine lv_iload hx hb dL_isBid_101 (lv_at hl 6 rfl) ?_
                refine gciT (X := wX4 T Ad ta ca fa ga) (va_runV (As := [.int (nI j)]) (rest := []) ⟨hx, hb, hml, hown, hts⟩ (cX2_bids_c l hl0 G T Ad AF D mny N f g rk rf rg rh j _ (by omega)) (cwV 1 hts gL_isBid_X2_bids rfl rfl rfl (by decide +kernel) ⟨Nat.le_of_ble_eq_true rfl, Nat.le_of_ble_eq_true rfl⟩) ⟨gblind, va_recv hK hP (ci := 2) (q0 := 4) rfl rfl, gpreT (X := wX4 T Ad ta ca fa ga) hE hK hP hD hS hA⟩ rfl rfl hl.1 rfl (lv_room (Nat.le_of_ble_eq_true rfl)) dL_isBid_103 ⟨Nat.le_of_ble_eq_true rfl, Nat.le_of_ble_eq_true rfl⟩) hP hD hS hA wC_fst (fun r9 H locs hw hP hD hS => ?_)
                have hP : va_P G vwCl (wW T Ad AF ta ca fa ga D mny N f g rk rf rg rh) H := hP
                have hD : va_D (va_A (wW T Ad AF ta ca fa ga D mny N f g rk rf rg rh) s.heap.size) (wW T Ad AF ta ca fa ga D mny N f g rk rf rg rh) := hD
                subst hw
                refine gtop (y := nI (cnt (f j) 6)) (sCnt_n _ 6) ?_
                refine lv_istore (lv' := [(8, .int (nI (cnt (f j) 6))), (7, .int 1), (6, .int 1), (0, .ref (Ad 1)), (1, .ref (Ad 5)), (2, .ref (Ad 8)), (3, .int (nI i)), (4, .int (nI j)), (5, .int (nI x))]) hx hb dL_isBid_106 hl (by decide) rfl (fun ls hl => ?_)
                refine lv_aload_n hx hb dL_isBid_108 rfl (lv_at hl 4 rfl) ?_
                refine lv_iload hx hb dL_isBid_109 (lv_at hl 7 rfl) ?_
                refine giald (j := j) hx hb hK hP 0 0 rfl rfl (show (nI j : Int32) = nI j from rfl) (by omega) (by decide) dL_isBid_111 ?_
                refine gtop (y := N j 0) n2.1 ?_
                refine lv_iconst (v := 1) hx hb dL_isBid_112 (by decide) ?_
                refine lv_icmp_ne (tgt := 126) hx hb dL_isBid_113 (by decide) (fun c113 => ?_) (fun c113 => ?_)
                · skip
                  have e0 : N j 0 = 0 := n1.st01 c56 c113
                  have h01 : N j 0 = 0 ∨ N j 0 = 1 := Or.inl e0
                  have hB2 : sBidN (N j) D 2 = D 3 + 5 := by rw [sBidN, if_pos e0]; rfl
                  refine lv_aload_n hx hb dL_isBid_126 rfl (lv_at hl 5 rfl) ?_
                  refine lv_iconst (v := 0) hx hb dL_isBid_127 (by decide) ?_
                  refine giald (j := 0) hx hb hK hP 3 0 rfl rfl (show (0 : Int32) = nI 0 from rfl) (by omega) (by decide) dL_isBid_128 ?_
                  refine gtop (y := D 3) (i2.trans i1.symm) ?_
                  refine lv_iconst (v := 5) hx hb dL_isBid_129 (by decide) ?_
                  refine lv_iadd hx hb dL_isBid_130 ?_
                  refine lv_istore (lv' := [(9, .int ((D 3) + 5)), (8, .int (nI (cnt (f j) 6))), (7, .int 1), (6, .int 1), (0, .ref (Ad 1)), (1, .ref (Ad 5)), (2, .ref (Ad 8)), (3, .int (nI i)), (4, .int (nI j)), (5, .int (nI x))]) hx hb dL_isBid_131 hl (by decide) rfl (fun ls hl => ?_)
                  refine lv_aload_n hx hb dL_isBid_133 rfl (lv_at hl 5 rfl) ?_
                  refine lv_iload hx hb dL_isBid_134 (lv_at hl 8 rfl) ?_
                  refine lv_iconst (v := 1) hx hb dL_isBid_136 (by decide) ?_
                  refine giast (j := j) hx hb hK hP hD hS 0 0 rfl rfl (show (nI j : Int32) = nI j from rfl) (by omega) (by decide) dL_isBid_137 (fun H locs hP hD hS => ?_)
                  have hP : va_P G vwCl (wW T Ad AF (upd ta j 1) ca fa ga D mny N f g rk rf rg rh) H := hP
                  have hD : va_D (va_A (wW T Ad AF ta ca fa ga D mny N f g rk rf rg rh) s.heap.size) (wW T Ad AF (upd ta j 1) ca fa ga D mny N f g rk rf rg rh) := hD
                  refine lv_aload_n hx hb dL_isBid_138 rfl (lv_at hl 5 rfl) ?_
                  refine lv_bipush (v := 32) hx hb dL_isBid_139 (by decide) ?_
                  refine lv_iload hx hb dL_isBid_141 (lv_at hl 8 rfl) ?_
                  refine lv_iadd hx hb dL_isBid_143 ?_
                  refine gtop (y := nI (32 + j)) (nI_add 32 j) ?_
                  refine lv_iload hx hb dL_isBid_144 (lv_at hl 0 rfl) ?_
                  refine giast (j := (32 + j)) hx hb hK hP hD hS 0 0 rfl rfl (show (nI (32 + j) : Int32) = nI (32 + j) from rfl) (by omega) (by decide) dL_isBid_146 (fun H locs hP hD hS => ?_)
                  have hP : va_P G vwCl (wW T Ad AF (upd (upd ta j 1) (32 + j) ((D 3) + 5)) ca fa ga D mny N f g rk rf rg rh) H := hP
                  have hD : va_D (va_A (wW T Ad AF ta ca fa ga D mny N f g rk rf rg rh) s.heap.size) (wW T Ad AF (upd (upd ta j 1) (32 + j) ((D 3) + 5)) ca fa ga D mny N f g rk rf rg rh) := hD
                  refine lv_aload_n hx hb dL_isBid_147 rfl (lv_at hl 4 rfl) ?_
                  refine lv_iconst (v := 1) hx hb dL_isBid_148 (by decide) ?_
                  refine lv_iload_n hx hb dL_isBid_149 rfl (lv_at hl 7 rfl) ?_
                  refine lv_iload hx hb dL_isBid_150 (lv_at hl 8 rfl) ?_
                  refine lv_iload hx hb dL_isBid_152 (lv_at hl 9 rfl) ?_
                  obtain ⟨hB0, -, -, -⟩ := bid_B n1 h01 i1
                  have hpos : 0 < nI x := nI_0lt (by omega) (by omega)
                  have hc9 := cnt_upd (f := f j) (k := i) hpos 6
                  have hb9 := cnt_le (f j) 6
                  refine gciT (X := wX4 T Ad (upd (upd ta j 1) (32 + j) ((D 3) + 5)) ca fa ga) (vx_runSW (As := [.ref (Ad 1), .int 1, .int (nI i), .int (nI j), .int (nI x)]) (rest := []) ⟨hx, hb, hml, hown, hts⟩ (cL_does_1_okc l hl0 G T Ad AF D mny N f g rk rf rg rh i j (nI x) _ (by omega) (by omega) (by rw [kBid_n (by omega) (by omega) (by omega), if_pos hi6, if_pos hj16, if_pos (by omega)]; first | rw [if_neg (by rw [c113]; decide), if_pos c113] | rw [if_pos e0])) (vx_cwSW 5 hts gL_isBid_L_does rfl rfl rfl (by decide +kernel) ⟨Nat.le_of_ble_eq_true rfl, Nat.le_of_ble_eq_true rfl⟩) ⟨gblind, gpreT (X := wX4 T Ad (upd (upd ta j 1) (32 + j) ((D 3) + 5)) ca fa ga) hE hK hP hD hS hA⟩ rfl rfl hl.1 rfl (lv_room (Nat.le_of_ble_eq_true rfl)) dL_isBid_154 ⟨Nat.le_of_ble_eq_true rfl, Nat.le_of_ble_eq_true rfl⟩) hP hD hS hA wC_fst (fun r9 H locs hw hP hD hS => ?_)
                  have hP : va_P G vwCl (wW T Ad AF (upd (upd ta j 1) (32 + j) ((D 3) + 5)) ca fa ga (upd D 5 (D 5 + 1)) mny (updA N j (sBidN (N j) D)) (updA f j (upd (f j) i (nI x))) (updA g j (upd (g j) i (D 5 + 1))) rk rf rg rh) H := hP
                  have hD : va_D (va_A (wW T Ad AF ta ca fa ga D mny N f g rk rf rg rh) s.heap.size) (wW T Ad AF (upd (upd ta j 1) (32 + j) ((D 3) + 5)) ca fa ga (upd D 5 (D 5 + 1)) mny (updA N j (sBidN (N j) D)) (updA f j (upd (f j) i (nI x))) (updA g j (upd (g j) i (D 5 + 1))) rk rf rg rh) := hD
                  subst hw
                  refine gtop (y := (D 3) + 5) hB2 ?_
                  refine lv_iload hx hb dL_isBid_157 (lv_at hl 0 rfl) ?_
                  refine lv_icmp_ne (tgt := 215) hx hb dL_isBid_159 (by decide) (fun c159 => ?_) (fun c159 => ?_)
                  · exact absurd rfl c159
                  · skip
                    refine lv_aload_n hx hb dL_isBid_162 rfl (lv_at hl 4 rfl) ?_
                    refine lv_iload hx hb dL_isBid_163 (lv_at hl 8 rfl) ?_
                    refine gciT (X := wX4 T Ad (upd (upd ta j 1) (32 + j) ((D 3) + 5)) ca fa ga) (va_runV (As := [.int (nI j)]) (rest := []) ⟨hx, hb, hml, hown, hts⟩ (cX2_bids_c l hl0 G T Ad AF (upd D 5 (D 5 + 1)) mny (updA N j (sBidN (N j) D)) (updA f j (upd (f j) i (nI x))) (updA g j (upd (g j) i (D 5 + 1))) rk rf rg rh j _ (by omega)) (cwV 1 hts gL_isBid_X2_bids rfl rfl rfl (by decide +kernel) ⟨Nat.le_of_ble_eq_true rfl, Nat.le_of_ble_eq_true rfl⟩) ⟨gblind, va_recv hK hP (ci := 2) (q0 := 4) rfl rfl, gpreT (X := wX4 T Ad (upd (upd ta j 1) (32 + j) ((D 3) + 5)) ca fa ga) hE hK hP hD hS hA⟩ rfl rfl hl.1 rfl (lv_room (Nat.le_of_ble_eq_true rfl)) dL_isBid_165 ⟨Nat.le_of_ble_eq_true rfl, Nat.le_of_ble_eq_true rfl⟩) hP hD hS hA wC_fst (fun r9 H locs hw hP hD hS => ?_)
                    have hP : va_P G vwCl (wW T Ad AF (upd (upd ta j 1) (32 + j) ((D 3) + 5)) ca fa ga (upd D 5 (D 5 + 1)) mny (updA N j (sBidN (N j) D)) (updA f j (upd (f j) i (nI x))) (updA g j (upd (g j) i (D 5 + 1))) rk rf rg rh) H := hP
                    have hD : va_D (va_A (wW T Ad AF ta ca fa ga D mny N f g rk rf rg rh) s.heap.size) (wW T Ad AF (upd (upd ta j 1) (32 + j) ((D 3) + 5)) ca fa ga (upd D 5 (D 5 + 1)) mny (updA N j (sBidN (N j) D)) (updA f j (upd (f j) i (nI x))) (updA g j (upd (g j) i (D 5 + 1))) rk rf rg rh) := hD
                    subst hw
                    refine gtop (y := nI (cnt (upd (f j) i (nI x)) 6)) (by rw [updA_at, sCnt_n]) ?_
                    refine lv_iload hx hb dL_isBid_168 (lv_at hl 1 rfl) ?_
                    refine lv_icmp_lt (tgt := 215) hx hb dL_isBid_170 (by decide) (fun c170 => ?_) (fun c170 => ?_)
                    · exact absurd c170 (nI_nlt hc9.1 (by omega))
                    · skip
                      refine lv_aload_n hx hb dL_isBid_173 rfl (lv_at hl 4 rfl) ?_
                      refine lv_iload hx hb dL_isBid_174 (lv_at hl 8 rfl) ?_
                      refine gciT (X := wX4 T Ad (upd (upd ta j 1) (32 + j) ((D 3) + 5)) ca fa ga) (va_runV (As := [.int (nI j)]) (rest := []) ⟨hx, hb, hml, hown, hts⟩ (cX2_bids_c l hl0 G T Ad AF (upd D 5 (D 5 + 1)) mny (updA N j (sBidN (N j) D)) (updA f j (upd (f j) i (nI x))) (updA g j (upd (g j) i (D 5 + 1))) rk rf rg rh j _ (by omega)) (cwV 1 hts gL_isBid_X2_bids rfl rfl rfl (by decide +kernel) ⟨Nat.le_of_ble_eq_true rfl, Nat.le_of_ble_eq_true rfl⟩) ⟨gblind, va_recv hK hP (ci := 2) (q0 := 4) rfl rfl, gpreT (X := wX4 T Ad (upd (upd ta j 1) (32 + j) ((D 3) + 5)) ca fa ga) hE hK hP hD hS hA⟩ rfl rfl hl.1 rfl (lv_room (Nat.le_of_ble_eq_true rfl)) dL_isBid_176 ⟨Nat.le_of_ble_eq_true rfl, Nat.le_of_ble_eq_true rfl⟩) hP hD hS hA wC_fst (fun r9 H locs hw hP hD hS => ?_)
                      have hP : va_P G vwCl (wW T Ad AF (upd (upd ta j 1) (32 + j) ((D 3) + 5)) ca fa ga (upd D 5 (D 5 + 1)) mny (updA N j (sBidN (N j) D)) (updA f j (upd (f j) i (nI x))) (updA g j (upd (g j) i (D 5 + 1))) rk rf rg rh) H := hP
                      have hD : va_D (va_A (wW T Ad AF ta ca fa ga D mny N f g rk rf rg rh) s.heap.size) (wW T Ad AF (upd (upd ta j 1) (32 + j) ((D 3) + 5)) ca fa ga (upd D 5 (D 5 + 1)) mny (updA N j (sBidN (N j) D)) (updA f j (upd (f j) i (nI x))) (updA g j (upd (g j) i (D 5 + 1))) rk rf rg rh) := hD
                      subst hw
                      refine gtop (y := nI (cnt (upd (f j) i (nI x)) 6)) (by rw [updA_at, sCnt_n]) ?_
                      refine lv_iload hx hb dL_isBid_179 (lv_at hl 1 rfl) ?_
                      refine lv_iconst (v := 1) hx hb dL_isBid_181 (by decide) ?_
                      refine lv_iadd hx hb dL_isBid_182 ?_
                      refine gtop (y := nI ((cnt (f j) 6) + 1)) (nI_add (cnt (f j) 6) 1) ?_
                      refine lv_icmp_gt (tgt := 215) hx hb dL_isBid_183 (by decide) (fun c183 => ?_) (fun c183 => ?_)
                      · exact absurd c183 (nI_nlt hc9.2.1 (by omega))
                      · skip
                        refine lv_aload_n hx hb dL_isBid_186 rfl (lv_at hl 4 rfl) ?_
                        refine lv_iconst (v := 1) hx hb dL_isBid_187 (by decide) ?_
                        refine lv_iload_n hx hb dL_isBid_188 rfl (lv_at hl 7 rfl) ?_
                        refine lv_iload hx hb dL_isBid_189 (lv_at hl 8 rfl) ?_
                        refine lv_iload hx hb dL_isBid_191 (lv_at hl 9 rfl) ?_
                        refine gciT (X := wX4 T Ad (upd (upd ta j 1) (32 + j) ((D 3) + 5)) ca fa ga) (vx_runSW (As := [.ref (Ad 1), .int 1, .int (nI i), .int (nI j), .int (nI x)]) (rest := []) ⟨hx, hb, hml, hown, hts⟩ (cL_does_1_okc l hl0 G T Ad AF (upd D 5 (D 5 + 1)) mny (updA N j (sBidN (N j) D)) (updA f j (upd (f j) i (nI x))) (updA g j (upd (g j) i (D 5 + 1))) rk rf rg rh i j (nI x) _ (by omega) (by omega) (by rw [updA_at, kBid_n (by omega) (by omega) (by omega), if_pos hi6, if_pos hj16, if_pos (by omega), if_neg (by rw [hB0]; decide), if_pos hB0])) (vx_cwSW 5 hts gL_isBid_L_does rfl rfl rfl (by decide +kernel) ⟨Nat.le_of_ble_eq_true rfl, Nat.le_of_ble_eq_true rfl⟩) ⟨gblind, gpreT (X := wX4 T Ad (upd (upd ta j 1) (32 + j) ((D 3) + 5)) ca fa ga) hE hK hP hD hS hA⟩ rfl rfl hl.1 rfl (lv_room (Nat.le_of_ble_eq_true rfl)) dL_isBid_193 ⟨Nat.le_of_ble_eq_true rfl, Nat.le_of_ble_eq_true rfl⟩) hP hD hS hA wC_fst (fun r9 H locs hw hP hD hS => ?_)
                        have hP : va_P G vwCl (wW T Ad AF (upd (upd ta j 1) (32 + j) ((D 3) + 5)) ca fa ga (upd (upd D 5 (D 5 + 1)) 5 ((upd D 5 (D 5 + 1)) 5 + 1)) mny (updA (updA N j (sBidN (N j) D)) j (sBidN ((updA N j (sBidN (N j) D)) j) (upd D 5 (D 5 + 1)))) (updA (updA f j (upd (f j) i (nI x))) j (upd ((updA f j (upd (f j) i (nI x))) j) i (nI x))) (updA (updA g j (upd (g j) i (D 5 + 1))) j (upd ((updA g j (upd (g j) i (D 5 + 1))) j) i ((upd D 5 (D 5 + 1)) 5 + 1))) rk rf rg rh) H := hP
                        have hD : va_D (va_A (wW T Ad AF ta ca fa ga D mny N f g rk rf rg rh) s.heap.size) (wW T Ad AF (upd (upd ta j 1) (32 + j) ((D 3) + 5)) ca fa ga (upd (upd D 5 (D 5 + 1)) 5 ((upd D 5 (D 5 + 1)) 5 + 1)) mny (updA (updA N j (sBidN (N j) D)) j (sBidN ((updA N j (sBidN (N j) D)) j) (upd D 5 (D 5 + 1)))) (updA (updA f j (upd (f j) i (nI x))) j (upd ((updA f j (upd (f j) i (nI x))) j) i (nI x))) (updA (updA g j (upd (g j) i (D 5 + 1))) j (upd ((updA g j (upd (g j) i (D 5 + 1))) j) i ((upd D 5 (D 5 + 1)) 5 + 1))) rk rf rg rh) := hD
                        subst hw
                        refine gtop (y := (D 3) + 5) (by rw [updA_at, sBidN_1 hB0]; exact hB2) ?_
                        refine lv_iload hx hb dL_isBid_196 (lv_at hl 0 rfl) ?_
                        refine lv_icmp_ne (tgt := 215) hx hb dL_isBid_198 (by decide) (fun c198 => ?_) (fun c198 => ?_)
                        · exact absurd rfl c198
                        · skip
                          refine lv_aload_n hx hb dL_isBid_201 rfl (lv_at hl 4 rfl) ?_
                          refine lv_iload hx hb dL_isBid_202 (lv_at hl 8 rfl) ?_
                          refine gciT (X := wX4 T Ad (upd (upd ta j 1) (32 + j) ((D 3) + 5)) ca fa ga) (va_runV (As := [.int (nI j)]) (rest := []) ⟨hx, hb, hml, hown, hts⟩ (cX2_bids_c l hl0 G T Ad AF (upd (upd D 5 (D 5 + 1)) 5 ((upd D 5 (D 5 + 1)) 5 + 1)) mny (updA (updA N j (sBidN (N j) D)) j (sBidN ((updA N j (sBidN (N j) D)) j) (upd D 5 (D 5 + 1)))) (updA (updA f j (upd (f j) i (nI x))) j (upd ((updA f j (upd (f j) i (nI x))) j) i (nI x))) (updA (updA g j (upd (g j) i (D 5 + 1))) j (upd ((updA g j (upd (g j) i (D 5 + 1))) j) i ((upd D 5 (D 5 + 1)) 5 + 1))) rk rf rg rh j _ (by omega)) (cwV 1 hts gL_isBid_X2_bids rfl rfl rfl (by decide +kernel) ⟨Nat.le_of_ble_eq_true rfl, Nat.le_of_ble_eq_true rfl⟩) ⟨gblind, va_recv hK hP (ci := 2) (q0 := 4) rfl rfl, gpreT (X := wX4 T Ad (upd (upd ta j 1) (32 + j) ((D 3) + 5)) ca fa ga) hE hK hP hD hS hA⟩ rfl rfl hl.1 rfl (lv_room (Nat.le_of_ble_eq_true rfl)) dL_isBid_204 ⟨Nat.le_of_ble_eq_true rfl, Nat.le_of_ble_eq_true rfl⟩) hP hD hS hA wC_fst (fun r9 H locs hw hP hD hS => ?_)
                          have hP : va_P G vwCl (wW T Ad AF (upd (upd ta j 1) (32 + j) ((D 3) + 5)) ca fa ga (upd (upd D 5 (D 5 + 1)) 5 ((upd D 5 (D 5 + 1)) 5 + 1)) mny (updA (updA N j (sBidN (N j) D)) j (sBidN ((updA N j (sBidN (N j) D)) j) (upd D 5 (D 5 + 1)))) (updA (updA f j (upd (f j) i (nI x))) j (upd ((updA f j (upd (f j) i (nI x))) j) i (nI x))) (updA (updA g j (upd (g j) i (D 5 + 1))) j (upd ((updA g j (upd (g j) i (D 5 + 1))) j) i ((upd D 5 (D 5 + 1)) 5 + 1))) rk rf rg rh) H := hP
                          have hD : va_D (va_A (wW T Ad AF ta ca fa ga D mny N f g rk rf rg rh) s.heap.size) (wW T Ad AF (upd (upd ta j 1) (32 + j) ((D 3) + 5)) ca fa ga (upd (upd D 5 (D 5 + 1)) 5 ((upd D 5 (D 5 + 1)) 5 + 1)) mny (updA (updA N j (sBidN (N j) D)) j (sBidN ((updA N j (sBidN (N j) D)) j) (upd D 5 (D 5 + 1)))) (updA (updA f j (upd (f j) i (nI x))) j (upd ((updA f j (upd (f j) i (nI x))) j) i (nI x))) (updA (updA g j (upd (g j) i (D 5 + 1))) j (upd ((updA g j (upd (g j) i (D 5 + 1))) j) i ((upd D 5 (D 5 + 1)) 5 + 1))) rk rf rg rh) := hD
                          subst hw
                          refine gtop (y := nI (cnt (upd (upd (f j) i (nI x)) i (nI x)) 6)) (by rw [updA_at, updA_at, sCnt_n]) ?_
                          refine lv_iconst (v := 1) hx hb dL_isBid_207 (by decide) ?_
                          refine lv_icmp_lt (tgt := 215) hx hb dL_isBid_208 (by decide) (fun c208 => ?_) (fun c208 => ?_)
                          · exact absurd c208 (nI_nlt (b := 1) (cnt_pos hi6 (by rw [upd_at]; exact hpos)) (by have := cnt_le (upd (upd (f j) i (nI x)) i (nI x)) 6; omega))
                          · skip
                            refine lv_iconst (v := 1) hx hb dL_isBid_211 (by decide) ?_
                            refine lv_goto (tgt := 216) hx hb dL_isBid_212 (by decide) ?_
                            refine W.widen (k := 12) (n := 72) (Nat.le_of_ble_eq_true rfl) (Nat.le_of_ble_eq_true rfl) ?_
                            have hI9 : INV d a (upd (upd D 5 (D 5 + 1)) 5 ((upd D 5 (D 5 + 1)) 5 + 1)) mny (updA (updA N j (sBidN (N j) D)) j (sBidN ((updA N j (sBidN (N j) D)) j) (upd D 5 (D 5 + 1)))) (updA (updA f j (upd (f j) i (nI x))) j (upd ((updA f j (upd (f j) i (nI x))) j) i (nI x))) rk rf rg rh (upd (upd ta j 1) (32 + j) ((D 3) + 5)) ca fa ga := INV.bid (x := x) hI hj16 hi6 (by omega) (by omega) h01 rfl rfl (fun k hk => by rw [updA_no hk, updA_no hk]) (fun k hk => by rw [updA_no hk, updA_no hk]) (by rw [updA_at, updA_at, sBidN_1 hB0]) (by rw [updA_at, updA_at]) (by rw [hB2])
                            exact W.zret (v := 1) hx hb hr (by decide) (fun w9 ht9 hW => ⟨⟨1, ((upd (upd D 5 (D 5 + 1)) 5 ((upd D 5 (D 5 + 1)) 5 + 1)), mny, (updA (updA N j (sBidN (N j) D)) j (sBidN ((updA N j (sBidN (N j) D)) j) (upd D 5 (D 5 + 1)))), (updA (updA f j (upd (f j) i (nI x))) j (upd ((updA f j (upd (f j) i (nI x))) j) i (nI x))), (updA (updA g j (upd (g j) i (D 5 + 1))) j (upd ((updA g j (upd (g j) i (D 5 + 1))) j) i ((upd D 5 (D 5 + 1)) 5 + 1))), rk, rf, rg, rh, (upd (upd ta j 1) (32 + j) ((D 3) + 5)), ca, fa, ga), rfl, ⟨rfl, hI9⟩, gBi ht9 (gfin hP (rfl))⟩, hS.F ht9⟩) hS.2.2 dL_isBid_216
                · skip
                  have h01 : N j 0 = 0 ∨ N j 0 = 1 := Or.inr c113
                  have hB2 : sBidN (N j) D 2 = N j 2 := by rw [sBidN_1 c113]
                  refine lv_aload_n hx hb dL_isBid_116 rfl (lv_at hl 4 rfl) ?_
                  refine lv_bipush (v := 32) hx hb dL_isBid_117 (by decide) ?_
                  refine lv_iload hx hb dL_isBid_119 (lv_at hl 7 rfl) ?_
                  refine lv_iadd hx hb dL_isBid_121 ?_
                  refine gtop (y := nI (32 + j)) (nI_add 32 j) ?_
                  refine giald (j := (32 + j)) hx hb hK hP 0 0 rfl rfl (show (nI (32 + j) : Int32) = nI (32 + j) from rfl) (by omega) (by decide) dL_isBid_122 ?_
                  refine gtop (y := N j 2) (n2.2.2.1.trans (sDay_1 c113)) ?_
                  refine lv_goto (tgt := 131) hx hb dL_isBid_123 (by decide) ?_
                  refine lv_istore (lv' := [(9, .int (N j 2)), (8, .int (nI (cnt (f j) 6))), (7, .int 1), (6, .int 1), (0, .ref (Ad 1)), (1, .ref (Ad 5)), (2, .ref (Ad 8)), (3, .int (nI i)), (4, .int (nI j)), (5, .int (nI x))]) hx hb dL_isBid_131 hl (by decide) rfl (fun ls hl => ?_)
                  refine lv_aload_n hx hb dL_isBid_133 rfl (lv_at hl 5 rfl) ?_
                  refine lv_iload hx hb dL_isBid_134 (lv_at hl 8 rfl) ?_
                  refine lv_iconst (v := 1) hx hb dL_isBid_136 (by decide) ?_
                  refine giast (j := j) hx hb hK hP hD hS 0 0 rfl rfl (show (nI j : Int32) = nI j from rfl) (by omega) (by decide) dL_isBid_137 (fun H locs hP hD hS => ?_)
                  have hP : va_P G vwCl (wW T Ad AF (upd ta j 1) ca fa ga D mny N f g rk rf rg rh) H := hP
                  have hD : va_D (va_A (wW T Ad AF ta ca fa ga D mny N f g rk rf rg rh) s.heap.size) (wW T Ad AF (upd ta j 1) ca fa ga D mny N f g rk rf rg rh) := hD
                  refine lv_aload_n hx hb dL_isBid_138 rfl (lv_at hl 5 rfl) ?_
                  refine lv_bipush (v := 32) hx hb dL_isBid_139 (by decide) ?_
                  refine lv_iload hx hb dL_isBid_141 (lv_at hl 8 rfl) ?_
                  refine lv_iadd hx hb dL_isBid_143 ?_
                  refine gtop (y := nI (32 + j)) (nI_add 32 j) ?_
                  refine lv_iload hx hb dL_isBid_144 (lv_at hl 0 rfl) ?_
                  refine giast (j := (32 + j)) hx hb hK hP hD hS 0 0 rfl rfl (show (nI (32 + j) : Int32) = nI (32 + j) from rfl) (by omega) (by decide) dL_isBid_146 (fun H locs hP hD hS => ?_)
                  have hP : va_P G vwCl (wW T Ad AF (upd (upd ta j 1) (32 + j) (N j 2)) ca fa ga D mny N f g rk rf rg rh) H := hP
                  have hD : va_D (va_A (wW T Ad AF ta ca fa ga D mny N f g rk rf rg rh) s.heap.size) (wW T Ad AF (upd (upd ta j 1) (32 + j) (N j 2)) ca fa ga D mny N f g rk rf rg rh) := hD
                  refine lv_aload_n hx hb dL_isBid_147 rfl (lv_at hl 4 rfl) ?_
                  refine lv_iconst (v := 1) hx hb dL_isBid_148 (by decide) ?_
                  refine lv_iload_n hx hb dL_isBid_149 rfl (lv_at hl 7 rfl) ?_
                  refine lv_iload hx hb dL_isBid_150 (lv_at hl 8 rfl) ?_
                  refine lv_iload hx hb dL_isBid_152 (lv_at hl 9 rfl) ?_
                  obtain ⟨hB0, -, -, -⟩ := bid_B n1 h01 i1
                  have hpos : 0 < nI x := nI_0lt (by omega) (by omega)
                  have hc9 := cnt_upd (f := f j) (k := i) hpos 6
                  have hb9 := cnt_le (f j) 6
                  refine gciT (X := wX4 T Ad (upd (upd ta j 1) (32 + j) (N j 2)) ca fa ga) (vx_runSW (As := [.ref (Ad 1), .int 1, .int (nI i), .int (nI j), .int (nI x)]) (rest := []) ⟨hx, hb, hml, hown, hts⟩ (cL_does_1_okc l hl0 G T Ad AF D mny N f g rk rf rg rh i j (nI x) _ (by omega) (by omega) (by rw [kBid_n (by omega) (by omega) (by omega), if_pos hi6, if_pos hj16, if_pos (by omega)]; first | rw [if_neg (by rw [c113]; decide), if_pos c113] | rw [if_pos e0])) (vx_cwSW 5 hts gL_isBid_L_does rfl rfl rfl (by decide +kernel) ⟨Nat.le_of_ble_eq_true rfl, Nat.le_of_ble_eq_true rfl⟩) ⟨gblind, gpreT (X := wX4 T Ad (upd (upd ta j 1) (32 + j) (N j 2)) ca fa ga) hE hK hP hD hS hA⟩ rfl rfl hl.1 rfl (lv_room (Nat.le_of_ble_eq_true rfl)) dL_isBid_154 ⟨Nat.le_of_ble_eq_true rfl, Nat.le_of_ble_eq_true rfl⟩) hP hD hS hA wC_fst (fun r9 H locs hw hP hD hS => ?_)
                  have hP : va_P G vwCl (wW T Ad AF (upd (upd ta j 1) (32 + j) (N j 2)) ca fa ga (upd D 5 (D 5 + 1)) mny (updA N j (sBidN (N j) D)) (updA f j (upd (f j) i (nI x))) (updA g j (upd (g j) i (D 5 + 1))) rk rf rg rh) H := hP
                  have hD : va_D (va_A (wW T Ad AF ta ca fa ga D mny N f g rk rf rg rh) s.heap.size) (wW T Ad AF (upd (upd ta j 1) (32 + j) (N j 2)) ca fa ga (upd D 5 (D 5 + 1)) mny (updA N j (sBidN (N j) D)) (updA f j (upd (f j) i (nI x))) (updA g j (upd (g j) i (D 5 + 1))) rk rf rg rh) := hD
                  subst hw
                  refine gtop (y := N j 2) hB2 ?_
                  refine lv_iload hx hb dL_isBid_157 (lv_at hl 0 rfl) ?_
                  refine lv_icmp_ne (tgt := 215) hx hb dL_isBid_159 (by decide) (fun c159 => ?_) (fun c159 => ?_)
                  · exact absurd rfl c159
                  · skip
                    refine lv_aload_n hx hb dL_isBid_162 rfl (lv_at hl 4 rfl) ?_
                    refine lv_iload hx hb dL_isBid_163 (lv_at hl 8 rfl) ?_
                    refine gciT (X := wX4 T Ad (upd (upd ta j 1) (32 + j) (N j 2)) ca fa ga) (va_runV (As := [.int (nI j)]) (rest := []) ⟨hx, hb, hml, hown, hts⟩ (cX2_bids_c l hl0 G T Ad AF (upd D 5 (D 5 + 1)) mny (updA N j (sBidN (N j) D)) (updA f j (upd (f j) i (nI x))) (updA g j (upd (g j) i (D 5 + 1))) rk rf rg rh j _ (by omega)) (cwV 1 hts gL_isBid_X2_bids rfl rfl rfl (by decide +kernel) ⟨Nat.le_of_ble_eq_true rfl, Nat.le_of_ble_eq_true rfl⟩) ⟨gblind, va_recv hK hP (ci := 2) (q0 := 4) rfl rfl, gpreT (X := wX4 T Ad (upd (upd ta j 1) (32 + j) (N j 2)) ca fa ga) hE hK hP hD hS hA⟩ rfl rfl hl.1 rfl (lv_room (Nat.le_of_ble_eq_true rfl)) dL_isBid_165 ⟨Nat.le_of_ble_eq_true rfl, Nat.le_of_ble_eq_true rfl⟩) hP hD hS hA wC_fst (fun r9 H locs hw hP hD hS => ?_)
                    have hP : va_P G vwCl (wW T Ad AF (upd (upd ta j 1) (32 + j) (N j 2)) ca fa ga (upd D 5 (D 5 + 1)) mny (updA N j (sBidN (N j) D)) (updA f j (upd (f j) i (nI x))) (updA g j (upd (g j) i (D 5 + 1))) rk rf rg rh) H := hP
                    have hD : va_D (va_A (wW T Ad AF ta ca fa ga D mny N f g rk rf rg rh) s.heap.size) (wW T Ad AF (upd (upd ta j 1) (32 + j) (N j 2)) ca fa ga (upd D 5 (D 5 + 1)) mny (updA N j (sBidN (N j) D)) (updA f j (upd (f j) i (nI x))) (updA g j (upd (g j) i (D 5 + 1))) rk rf rg rh) := hD
                    subst hw
                    refine gtop (y := nI (cnt (upd (f j) i (nI x)) 6)) (by rw [updA_at, sCnt_n]) ?_
                    refine lv_iload hx hb dL_isBid_168 (lv_at hl 1 rfl) ?_
                    refine lv_icmp_lt (tgt := 215) hx hb dL_isBid_170 (by decide) (fun c170 => ?_) (fun c170 => ?_)
                    · exact absurd c170 (nI_nlt hc9.1 (by omega))
                    · skip
                      refine lv_aload_n hx hb dL_isBid_173 rfl (lv_at hl 4 rfl) ?_
                      refine lv_iload hx hb dL_isBid_174 (lv_at hl 8 rfl) ?_
                      refine gciT (X := wX4 T Ad (upd (upd ta j 1) (32 + j) (N j 2)) ca fa ga) (va_runV (As := [.int (nI j)]) (rest := []) ⟨hx, hb, hml, hown, hts⟩ (cX2_bids_c l hl0 G T Ad AF (upd D 5 (D 5 + 1)) mny (updA N j (sBidN (N j) D)) (updA f j (upd (f j) i (nI x))) (updA g j (upd (g j) i (D 5 + 1))) rk rf rg rh j _ (by omega)) (cwV 1 hts gL_isBid_X2_bids rfl rfl rfl (by decide +kernel) ⟨Nat.le_of_ble_eq_true rfl, Nat.le_of_ble_eq_true rfl⟩) ⟨gblind, va_recv hK hP (ci := 2) (q0 := 4) rfl rfl, gpreT (X := wX4 T Ad (upd (upd ta j 1) (32 + j) (N j 2)) ca fa ga) hE hK hP hD hS hA⟩ rfl rfl hl.1 rfl (lv_room (Nat.le_of_ble_eq_true rfl)) dL_isBid_176 ⟨Nat.le_of_ble_eq_true rfl, Nat.le_of_ble_eq_true rfl⟩) hP hD hS hA wC_fst (fun r9 H locs hw hP hD hS => ?_)
                      have hP : va_P G vwCl (wW T Ad AF (upd (upd ta j 1) (32 + j) (N j 2)) ca fa ga (upd D 5 (D 5 + 1)) mny (updA N j (sBidN (N j) D)) (updA f j (upd (f j) i (nI x))) (updA g j (upd (g j) i (D 5 + 1))) rk rf rg rh) H := hP
                      have hD : va_D (va_A (wW T Ad AF ta ca fa ga D mny N f g rk rf rg rh) s.heap.size) (wW T Ad AF (upd (upd ta j 1) (32 + j) (N j 2)) ca fa ga (upd D 5 (D 5 + 1)) mny (updA N j (sBidN (N j) D)) (updA f j (upd (f j) i (nI x))) (updA g j (upd (g j) i (D 5 + 1))) rk rf rg rh) := hD
                      subst hw
                      refine gtop (y := nI (cnt (upd (f j) i (nI x)) 6)) (by rw [updA_at, sCnt_n]) ?_
                      refine lv_iload hx hb dL_isBid_179 (lv_at hl 1 rfl) ?_
                      refine lv_iconst (v := 1) hx hb dL_isBid_181 (by decide) ?_
                      refine lv_iadd hx hb dL_isBid_182 ?_
                      refine gtop (y := nI ((cnt (f j) 6) + 1)) (nI_add (cnt (f j) 6) 1) ?_
                      refine lv_icmp_gt (tgt := 215) hx hb dL_isBid_183 (by decide) (fun c183 => ?_) (fun c183 => ?_)
                      · exact absurd c183 (nI_nlt hc9.2.1 (by omega))
                      · skip
                        refine lv_aload_n hx hb dL_isBid_186 rfl (lv_at hl 4 rfl) ?_
                        refine lv_iconst (v := 1) hx hb dL_isBid_187 (by decide) ?_
                        refine lv_iload_n hx hb dL_isBid_188 rfl (lv_at hl 7 rfl) ?_
                        refine lv_iload hx hb dL_isBid_189 (lv_at hl 8 rfl) ?_
                        refine lv_iload hx hb dL_isBid_191 (lv_at hl 9 rfl) ?_
                        refine gciT (X := wX4 T Ad (upd (upd ta j 1) (32 + j) (N j 2)) ca fa ga) (vx_runSW (As := [.ref (Ad 1), .int 1, .int (nI i), .int (nI j), .int (nI x)]) (rest := []) ⟨hx, hb, hml, hown, hts⟩ (cL_does_1_okc l hl0 G T Ad AF (upd D 5 (D 5 + 1)) mny (updA N j (sBidN (N j) D)) (updA f j (upd (f j) i (nI x))) (updA g j (upd (g j) i (D 5 + 1))) rk rf rg rh i j (nI x) _ (by omega) (by omega) (by rw [updA_at, kBid_n (by omega) (by omega) (by omega), if_pos hi6, if_pos hj16, if_pos (by omega), if_neg (by rw [hB0]; decide), if_pos hB0])) (vx_cwSW 5 hts gL_isBid_L_does rfl rfl rfl (by decide +kernel) ⟨Nat.le_of_ble_eq_true rfl, Nat.le_of_ble_eq_true rfl⟩) ⟨gblind, gpreT (X := wX4 T Ad (upd (upd ta j 1) (32 + j) (N j 2)) ca fa ga) hE hK hP hD hS hA⟩ rfl rfl hl.1 rfl (lv_room (Nat.le_of_ble_eq_true rfl)) dL_isBid_193 ⟨Nat.le_of_ble_eq_true rfl, Nat.le_of_ble_eq_true rfl⟩) hP hD hS hA wC_fst (fun r9 H locs hw hP hD hS => ?_)
                        have hP : va_P G vwCl (wW T Ad AF (upd (upd ta j 1) (32 + j) (N j 2)) ca fa ga (upd (upd D 5 (D 5 + 1)) 5 ((upd D 5 (D 5 + 1)) 5 + 1)) mny (updA (updA N j (sBidN (N j) D)) j (sBidN ((updA N j (sBidN (N j) D)) j) (upd D 5 (D 5 + 1)))) (updA (updA f j (upd (f j) i (nI x))) j (upd ((updA f j (upd (f j) i (nI x))) j) i (nI x))) (updA (updA g j (upd (g j) i (D 5 + 1))) j (upd ((updA g j (upd (g j) i (D 5 + 1))) j) i ((upd D 5 (D 5 + 1)) 5 + 1))) rk rf rg rh) H := hP
                        have hD : va_D (va_A (wW T Ad AF ta ca fa ga D mny N f g rk rf rg rh) s.heap.size) (wW T Ad AF (upd (upd ta j 1) (32 + j) (N j 2)) ca fa ga (upd (upd D 5 (D 5 + 1)) 5 ((upd D 5 (D 5 + 1)) 5 + 1)) mny (updA (updA N j (sBidN (N j) D)) j (sBidN ((updA N j (sBidN (N j) D)) j) (upd D 5 (D 5 + 1)))) (updA (updA f j (upd (f j) i (nI x))) j (upd ((updA f j (upd (f j) i (nI x))) j) i (nI x))) (updA (updA g j (upd (g j) i (D 5 + 1))) j (upd ((updA g j (upd (g j) i (D 5 + 1))) j) i ((upd D 5 (D 5 + 1)) 5 + 1))) rk rf rg rh) := hD
                        subst hw
                        refine gtop (y := N j 2) (by rw [updA_at, sBidN_1 hB0]; exact hB2) ?_
                        refine lv_iload hx hb dL_isBid_196 (lv_at hl 0 rfl) ?_
                        refine lv_icmp_ne (tgt := 215) hx hb dL_isBid_198 (by decide) (fun c198 => ?_) (fun c198 => ?_)
                        · exact absurd rfl c198
                        · skip
                          refine lv_aload_n hx hb dL_isBid_201 rfl (lv_at hl 4 rfl) ?_
                          refine lv_iload hx hb dL_isBid_202 (lv_at hl 8 rfl) ?_
                          refine gciT (X := wX4 T Ad (upd (upd ta j 1) (32 + j) (N j 2)) ca fa ga) (va_runV (As := [.int (nI j)]) (rest := []) ⟨hx, hb, hml, hown, hts⟩ (cX2_bids_c l hl0 G T Ad AF (upd (upd D 5 (D 5 + 1)) 5 ((upd D 5 (D 5 + 1)) 5 + 1)) mny (updA (updA N j (sBidN (N j) D)) j (sBidN ((updA N j (sBidN (N j) D)) j) (upd D 5 (D 5 + 1)))) (updA (updA f j (upd (f j) i (nI x))) j (upd ((updA f j (upd (f j) i (nI x))) j) i (nI x))) (updA (updA g j (upd (g j) i (D 5 + 1))) j (upd ((updA g j (upd (g j) i (D 5 + 1))) j) i ((upd D 5 (D 5 + 1)) 5 + 1))) rk rf rg rh j _ (by omega)) (cwV 1 hts gL_isBid_X2_bids rfl rfl rfl (by decide +kernel) ⟨Nat.le_of_ble_eq_true rfl, Nat.le_of_ble_eq_true rfl⟩) ⟨gblind, va_recv hK hP (ci := 2) (q0 := 4) rfl rfl, gpreT (X := wX4 T Ad (upd (upd ta j 1) (32 + j) (N j 2)) ca fa ga) hE hK hP hD hS hA⟩ rfl rfl hl.1 rfl (lv_room (Nat.le_of_ble_eq_true rfl)) dL_isBid_204 ⟨Nat.le_of_ble_eq_true rfl, Nat.le_of_ble_eq_true rfl⟩) hP hD hS hA wC_fst (fun r9 H locs hw hP hD hS => ?_)
                          have hP : va_P G vwCl (wW T Ad AF (upd (upd ta j 1) (32 + j) (N j 2)) ca fa ga (upd (upd D 5 (D 5 + 1)) 5 ((upd D 5 (D 5 + 1)) 5 + 1)) mny (updA (updA N j (sBidN (N j) D)) j (sBidN ((updA N j (sBidN (N j) D)) j) (upd D 5 (D 5 + 1)))) (updA (updA f j (upd (f j) i (nI x))) j (upd ((updA f j (upd (f j) i (nI x))) j) i (nI x))) (updA (updA g j (upd (g j) i (D 5 + 1))) j (upd ((updA g j (upd (g j) i (D 5 + 1))) j) i ((upd D 5 (D 5 + 1)) 5 + 1))) rk rf rg rh) H := hP
                          have hD : va_D (va_A (wW T Ad AF ta ca fa ga D mny N f g rk rf rg rh) s.heap.size) (wW T Ad AF (upd (upd ta j 1) (32 + j) (N j 2)) ca fa ga (upd (upd D 5 (D 5 + 1)) 5 ((upd D 5 (D 5 + 1)) 5 + 1)) mny (updA (updA N j (sBidN (N j) D)) j (sBidN ((updA N j (sBidN (N j) D)) j) (upd D 5 (D 5 + 1)))) (updA (updA f j (upd (f j) i (nI x))) j (upd ((updA f j (upd (f j) i (nI x))) j) i (nI x))) (updA (updA g j (upd (g j) i (D 5 + 1))) j (upd ((updA g j (upd (g j) i (D 5 + 1))) j) i ((upd D 5 (D 5 + 1)) 5 + 1))) rk rf rg rh) := hD
                          subst hw
                          refine gtop (y := nI (cnt (upd (upd (f j) i (nI x)) i (nI x)) 6)) (by rw [updA_at, updA_at, sCnt_n]) ?_
                          refine lv_iconst (v := 1) hx hb dL_isBid_207 (by decide) ?_
                          refine lv_icmp_lt (tgt := 215) hx hb dL_isBid_208 (by decide) (fun c208 => ?_) (fun c208 => ?_)
                          · exact absurd c208 (nI_nlt (b := 1) (cnt_pos hi6 (by rw [upd_at]; exact hpos)) (by have := cnt_le (upd (upd (f j) i (nI x)) i (nI x)) 6; omega))
                          · skip
                            refine lv_iconst (v := 1) hx hb dL_isBid_211 (by decide) ?_
                            refine lv_goto (tgt := 216) hx hb dL_isBid_212 (by decide) ?_
                            refine W.widen (k := 12) (n := 72) (Nat.le_of_ble_eq_true rfl) (Nat.le_of_ble_eq_true rfl) ?_
                            have hI9 : INV d a (upd (upd D 5 (D 5 + 1)) 5 ((upd D 5 (D 5 + 1)) 5 + 1)) mny (updA (updA N j (sBidN (N j) D)) j (sBidN ((updA N j (sBidN (N j) D)) j) (upd D 5 (D 5 + 1)))) (updA (updA f j (upd (f j) i (nI x))) j (upd ((updA f j (upd (f j) i (nI x))) j) i (nI x))) rk rf rg rh (upd (upd ta j 1) (32 + j) (N j 2)) ca fa ga := INV.bid (x := x) hI hj16 hi6 (by omega) (by omega) h01 rfl rfl (fun k hk => by rw [updA_no hk, updA_no hk]) (fun k hk => by rw [updA_no hk, updA_no hk]) (by rw [updA_at, updA_at, sBidN_1 hB0]) (by rw [updA_at, updA_at]) (by rw [hB2])
                            exact W.zret (v := 1) hx hb hr (by decide) (fun w9 ht9 hW => ⟨⟨1, ((upd (upd D 5 (D 5 + 1)) 5 ((upd D 5 (D 5 + 1)) 5 + 1)), mny, (updA (updA N j (sBidN (N j) D)) j (sBidN ((updA N j (sBidN (N j) D)) j) (upd D 5 (D 5 + 1)))), (updA (updA f j (upd (f j) i (nI x))) j (upd ((updA f j (upd (f j) i (nI x))) j) i (nI x))), (updA (updA g j (upd (g j) i (D 5 + 1))) j (upd ((updA g j (upd (g j) i (D 5 + 1))) j) i ((upd D 5 (D 5 + 1)) 5 + 1))), rk, rf, rg, rh, (upd (upd ta j 1) (32 + j) (N j 2)), ca, fa, ga), rfl, ⟨rfl, hI9⟩, gBi ht9 (gfin hP (rfl))⟩, hS.F ht9⟩) hS.2.2 dL_isBid_216
              · skip
                have hz0 : ¬ N j 0 = 0 := fun h9 => c56 (by rw [h9]; decide)
                have hz1 : ¬ N j 0 = 1 := fun h9 => c56 (by rw [h9]; decide)
                refine lv_aload_n hx hb dL_isBid_59 rfl (lv_at hl 2 rfl) ?_
                refine lv_iconst (v := 1) hx hb dL_isBid_60 (by decide) ?_
                refine lv_iload_n hx hb dL_isBid_61 rfl (lv_at hl 5 rfl) ?_
                refine lv_iload hx hb dL_isBid_62 (lv_at hl 6 rfl) ?_
                refine lv_iload hx hb dL_isBid_64 (lv_at hl 7 rfl) ?_
                refine gciT (X := wX4 T Ad ta ca fa ga) (vx_runSW (As := [.ref (Ad 1), .int 1, .int (nI i), .int (nI j), .int (nI x)]) (rest := []) ⟨hx, hb, hml, hown, hts⟩ (cL_does_1_noc l hl0 G T Ad AF D mny N f g rk rf rg rh i j (nI i) (nI j) (nI x) _ hj16 (fun _ => ⟨rfl, hi6⟩) (fun _ => ⟨rfl, hj16⟩) (fun h9 => absurd (h9.symm.trans (show kBid (nI i) (nI j) (nI x) (N j) = 3 by rw [kBid_n (by omega) (by omega) (by omega), if_pos hi6, if_pos hj16, if_pos (by omega), if_neg hz0, if_neg hz1])) (by decide))) (vx_cwSW 5 hts gL_isBid_L_does rfl rfl rfl (by decide +kernel) ⟨Nat.le_of_ble_eq_true rfl, Nat.le_of_ble_eq_true rfl⟩) ⟨gblind, gpreT (X := wX4 T Ad ta ca fa ga) hE hK hP hD hS hA⟩ rfl rfl hl.1 rfl (lv_room (Nat.le_of_ble_eq_true rfl)) dL_isBid_66 ⟨Nat.le_of_ble_eq_true rfl, Nat.le_of_ble_eq_true rfl⟩) hP hD hS hA wC_fst (fun r9 H locs hw hP hD hS => ?_)
                have hP : va_P G vwCl (wW T Ad AF ta ca fa ga D mny N f g rk rf rg rh) H := hP
                have hD : va_D (va_A (wW T Ad AF ta ca fa ga D mny N f g rk rf rg rh) s.heap.size) (wW T Ad AF ta ca fa ga D mny N f g rk rf rg rh) := hD
                subst hw
                refine gtop (y := (-10)) (wD_10 (show kBid (nI i) (nI j) (nI x) (N j) = 3 by rw [kBid_n (by omega) (by omega) (by omega), if_pos hi6, if_pos hj16, if_pos (by omega), if_neg hz0, if_neg hz1])) ?_
                refine lv_iload hx hb dL_isBid_69 (lv_at hl 1 rfl) ?_
                refine lv_if_ne (tgt := 79) hx hb dL_isBid_71 (by decide) (fun c71 => ?_) (fun c71 => ?_)
                · skip
                  refine lv_iload hx hb dL_isBid_79 (lv_at hl 0 rfl) ?_
                  refine lv_if_ne (tgt := 89) hx hb dL_isBid_81 (by decide) (fun c81 => ?_) (fun c81 => ?_)
                  · skip
                    refine lv_bipush (v := (-10)) hx hb dL_isBid_89 (by decide) ?_
                    refine lv_icmp_ne (tgt := 98) hx hb dL_isBid_91 (by decide) (fun c91 => ?_) (fun c91 => ?_)
                    · exact absurd c91 (by decide)
                    · skip
                      refine lv_iconst (v := 1) hx hb dL_isBid_94 (by decide) ?_
                      refine lv_goto (tgt := 99) hx hb dL_isBid_95 (by decide) ?_
                      refine W.widen (k := 12) (n := 72) (Nat.le_of_ble_eq_true rfl) (Nat.le_of_ble_eq_true rfl) ?_
                      exact W.zret (v := 1) hx hb hr (by decide) (fun w9 ht9 hW => ⟨⟨1, (D, mny, N, f, g, rk, rf, rg, rh, ta, ca, fa, ga), rfl, ⟨rfl, hI⟩, gBi ht9 (gfin hP (rfl))⟩, hS.F ht9⟩) hS.2.2 dL_isBid_99
                  · exact absurd c81 (by decide)
                · exact absurd c71 (by decide)
