/-! THE LAW'S METHODS: isAnswer -/
theorem has9 {d j : Nat} {N f t c : Nat → Int32} (h : NI d N f) (hl : LI t c j N) : lHas t c j = sRec N := by
  obtain ⟨b2, b3, b4, b5, b6, b7⟩ := hl
  obtain ⟨s, hs, e⟩ := h.st
  rw [lHas, b2]
  match s, hs, e with
  | 0, _, e =>
    have e : N 0 = 0 := e
    rw [sRec_0 (s := 0) (by omega) e (by omega), e]; rfl
  | 1, _, e =>
    have e : N 0 = 1 := e
    rw [sRec_0 (s := 1) (by omega) e (by omega), e]; rfl
  | 2, _, e =>
    have e : N 0 = 2 := e
    rw [sRec_2 e, e]; rfl
  | 3, _, e =>
    have e : N 0 = 3 := e
    rw [sRec_3 e, e]; rfl
  | 4, _, e =>
    have e : N 0 = 4 := e
    rw [sRec_0 (s := 4) (by omega) e (by omega), e]; rfl
  | 5, _, e =>
    have e : N 0 = 5 := e
    rw [e, b6 e]
    rcases (h.at5 e).2 with ⟨h6, -⟩ | ⟨s, e9, o, q, z, s2, s3, -, -, -, -, -, -, h6, -⟩
    · rw [if_pos h6, sRec_5a e h6]; rfl
    · rw [if_neg (c0_of s2 s3 h6), sRec_5b e s2 s3 h6]; rfl
theorem sKept_upd {k : Nat → Int32} {j : Nat} : ∀ n, sKept (upd k j 1) n = sKept k n + (if j < n then (if k j = 0 then 1 else 0) else 0)
  | 0 => by rw [if_neg (by omega)]; rfl
  | n + 1 => by
    rw [sKept, sKept, sKept_upd n]
    by_cases h : n = j
    · subst h
      rw [if_neg (show ¬ n < n by omega), if_pos (show n < n + 1 by omega), upd_at, if_neg (show ¬ (1 : Int32) = 0 by decide), Int32.add_zero]
      by_cases h0 : k n = 0
      · rw [if_pos h0, if_pos h0, Int32.add_zero]
      · rw [if_neg h0, if_neg h0, Int32.add_zero]
    · rw [upd_no h]
      by_cases h2 : j < n
      · rw [if_pos h2, if_pos (show j < n + 1 by omega)]
        generalize (if k j = 0 then (1 : Int32) else 0) = A
        generalize (if k n = 0 then (0 : Int32) else 1) = B
        rw [Int32.add_assoc, Int32.add_comm A B, ← Int32.add_assoc]
      · rw [if_neg h2, if_neg (show ¬ j < n + 1 by omega), Int32.add_zero, Int32.add_zero]
/-- the resolver keeps what it kept -/
theorem INV.look1 {d a j : Nat} {b v w x y : Int32} {D mny : Nat → Int32} {N f : Nat → Nat → Int32} {rk rf rg rh : Nat → Nat → Int32} {t c F G : Nat → Int32} (h : INV d a D mny N f rk rf rg rh t c F G) (hb : b = 1) :
    INV d a D mny N f (updA rk 0 (sLook b (rk 0) j v)) (updA rf 0 (sLook b (rf 0) j w)) (updA rg 0 (sLook b (rg 0) j x)) (updA rh 0 (sLook b (rh 0) j y)) t c F G := by
  have e : ∀ (k : Nat → Int32) (z : Int32), sLook b k j z = k := fun k z => by rw [sLook, hb, if_neg (by decide)]
  rw [e, e, e, e, updA_self, updA_self, updA_self, updA_self]
  exact h
/-- the resolver takes an answer -/
theorem INV.look0 {d a j : Nat} {b u : Int32} {D mny : Nat → Int32} {N f : Nat → Nat → Int32} {rk rf rg rh : Nat → Nat → Int32} {t c F G : Nat → Int32} (h : INV d a D mny N f rk rf rg rh t c F G) (hj : j < 16) (hb : b = 0) (hu : u = if rk 0 j = 0 then 1 else 0) :
    INV d a D mny N f (updA rk 0 (sLook b (rk 0) j 1)) (updA rf 0 (sLook b (rf 0) j (sAns (N j)))) (updA rg 0 (sLook b (rg 0) j (sLife (N j)))) (updA rh 0 (sLook b (rh 0) j (D 3))) t c (upd (upd (upd F j (nI d)) (16 + j) (sAns (N j))) (32 + j) (sLife (N j))) (upd G 2 (G 2 + u)) := by
  have e : ∀ (k : Nat → Int32) (z : Int32), sLook b k j z = upd k j z := fun k z => by rw [sLook, if_pos hb]
  rw [e, e, e, e]
  obtain ⟨i1, i2, i3, i4, i5, i6, i7⟩ := h
  refine ⟨i1, (upd_no (by omega)).trans i2, i3, (upd_no (by omega)).trans i4, i5, fun k hk => ?_, ?_⟩
  · rw [updA_at, updA_at, updA_at, updA_at]
    by_cases hkj : k = j
    · subst hkj
      refine Or.inr ⟨upd_at _ _ _, ?_, ?_, d, Nat.le_refl d, ?_, ?_⟩
      · rw [upd_no (by omega), upd_at, upd_at]
      · rw [upd_at, upd_at]
      · rw [upd_at, i1]
      · rw [upd_no (by omega), upd_no (by omega), upd_at]
    · have q := i6 k hk
      unfold QI at q ⊢
      rw [upd_no hkj, upd_no hkj, upd_no hkj, upd_no hkj]
      rw [show upd (upd (upd F j (nI d)) (16 + j) (sAns (N j))) (32 + j) (sLife (N j)) k = F k by rw [upd_no (by omega), upd_no (by omega), upd_no (by omega)]]
      rw [show upd (upd (upd F j (nI d)) (16 + j) (sAns (N j))) (32 + j) (sLife (N j)) (16 + k) = F (16 + k) by rw [upd_no (by omega), upd_no (by omega), upd_no (by omega)]]
      rw [show upd (upd (upd F j (nI d)) (16 + j) (sAns (N j))) (32 + j) (sLife (N j)) (32 + k) = F (32 + k) by rw [upd_no (by omega), upd_no (by omega), upd_no (by omega)]]
      exact q
  · rw [upd_at, updA_at, sKept_upd 16, if_pos hj, i7, hu]
abbrev PL_isAnswer (G : va_G) (T : Nat → ClassId) (Ad : Nat → Nat) (AF : Nat → Nat → Nat) (D mny : Nat → Int32) (N f g : Nat → Nat → Int32) (rk rf rg rh : Nat → Nat → Int32) (ta ca fa ga : Nat → Int32) (j d a : Nat) (sz : Nat) : Array Value → State → Prop := gPc G T [.ref (Ad 1), .ref (Ad 5), .ref (Ad 6), .ref (Ad 7), .ref (Ad 8), .int (nI j)] (wW T Ad AF ta ca fa ga D mny N f g rk rf rg rh) sz
abbrev QL_isAnswer (G : va_G) (T : Nat → ClassId) (Ad : Nat → Nat) (AF : Nat → Nat → Nat) (D mny : Nat → Int32) (N f g : Nat → Nat → Int32) (rk rf rg rh : Nat → Nat → Int32) (ta ca fa ga : Nat → Int32) (j d a : Nat) (sz : Nat) : Array Value → State → Outcome → State → Prop := va_Qi (fun (r : Int32) (u : UL) => r = 1 ∧ INVu d a u) (fun (u : UL) (w9 : State) => va_P G vwCl (wW T Ad AF u.2.2.2.2.2.2.2.2.2.1 u.2.2.2.2.2.2.2.2.2.2.1 u.2.2.2.2.2.2.2.2.2.2.2.1 u.2.2.2.2.2.2.2.2.2.2.2.2 u.1 u.2.1 u.2.2.1 u.2.2.2.1 u.2.2.2.2.1 u.2.2.2.2.2.1 u.2.2.2.2.2.2.1 u.2.2.2.2.2.2.2.1 u.2.2.2.2.2.2.2.2.1) w9.heap) (va_A (wW T Ad AF ta ca fa ga D mny N f g rk rf rg rh) sz)
set_option maxHeartbeats 4000000 in
set_option maxRecDepth 100000 in
theorem kL_isAnswer (l : Launch) (hl0 : l.stackTraces = false) (G : va_G) (T : Nat → ClassId) (Ad : Nat → Nat) (AF : Nat → Nat → Nat) (D mny : Nat → Int32) (N f g : Nat → Nat → Int32) (rk rf rg rh : Nat → Nat → Int32) (ta ca fa ga : Nat → Int32) (j d a : Nat) (sz : Nat) (hI : INV d a D mny N f rk rf rg rh ta ca fa ga) (hd : d < 2 ^ 20) (ha : a < 2 ^ 20) (hj16 : j < 16) : Met l yL_isAnswer wsL_isAnswer ({ frames := 8, cells := 4, slots := 24, locals := 125 } : Room) (PL_isAnswer G T Ad AF D mny N f g rk rf rg rh ta ca fa ga j d a sz) (QL_isAnswer G T Ad AF D mny N f g rk rf rg rh ta ca fa ga j d a sz) 4 24 (va_A (wW T Ad AF ta ca fa ga D mny N f g rk rf rg rh) sz) := by
  refine Met.ofW (cc := cL_isAnswer) (maxL := 9) (ret := (some .boolean)) (by decide) rfl ?_
  intro p e s m args below meth c s₁ B hml hv
  obtain ⟨rfl, hsz, hP, hK, hD0, hE⟩ := hv
  have hx := B.exec
  have hb := B.bytes
  have hr := B.returns
  have hts := atoms_spec (ws := wsL_isAnswer) B.pre
  have hown : s.vm.findClass RL = some m.cls := findClass_of_methodNamed B.named
  have hlocks := B.notSynchronized
  subst hsz
  have hD := hD0.self (sz := s.heap.size)
  have hA : ∀ q : Nat, s.heap.size ≤ q → (va_A (wW T Ad AF ta ca fa ga D mny N f g rk rf rg rh) s.heap.size) q := fun q h => Or.inr h
  have hS : va_S (va_A (wW T Ad AF ta ca fa ga D mny N f g rk rf rg rh) s.heap.size) s.heap s.heap [] := va_S.rf
  have hl := lv_entry ([.ref (Ad 1), .ref (Ad 5), .ref (Ad 6), .ref (Ad 7), .ref (Ad 8), .int (nI j)]) (n := 9) (Nat.le_of_ble_eq_true rfl)
  rw [lg_entry_eq]
  generalize (lg_sl ([.ref (Ad 1), .ref (Ad 5), .ref (Ad 6), .ref (Ad 7), .ref (Ad 8), .int (nI j)]) ++ List.replicate (9 - (lg_sl ([.ref (Ad 1), .ref (Ad 5), .ref (Ad 6), .ref (Ad 7), .ref (Ad 8), .int (nI j)])).length) Slot.unset).toArray = ls at hl ⊢
  have hl : lv_has ls 9 [(0, .ref (Ad 1)), (1, .ref (Ad 5)), (2, .ref (Ad 6)), (3, .ref (Ad 7)), (4, .ref (Ad 8)), (5, .int (nI j))] := hl
  obtain ⟨i1, i2, ⟨m9, p9, j1, j2, j3⟩, i4, i5, i6, i7⟩ := id hI
  have hp9 : p9 < 2 ^ 20 := Nat.lt_of_le_of_lt psum_p (by rw [j3]; exact ha)
  have hm9 : ∀ k, k < 6 → m9 k < 2 ^ 20 := fun k hk => by have := psum_le (p := p9) (m := m9) hk; omega
  obtain ⟨n1, n2⟩ := i5 j hj16
  have hP : va_P G vwCl (wW T Ad AF ta ca fa ga D mny N f g rk rf rg rh) s.heap := hP
  refine lv_aload_n hx hb dL_isAnswer_0 rfl (lv_at hl 1 rfl) ?_
  refine lv_aload_n hx hb dL_isAnswer_1 rfl (lv_at hl 2 rfl) ?_
  refine lv_iload hx hb dL_isAnswer_2 (lv_at hl 5 rfl) ?_
  refine gciT (X := ([] : va_W)) (va_runS (As := [.ref (Ad 5), .ref (Ad 6), .int (nI j)]) (rest := []) ⟨hx, hb, hml, hown, hts⟩ (kL_hasRecord l G T Ad AF D mny N f g rk rf rg rh ta ca fa ga j _ (by omega)) (va_cwS 3 hts gL_isAnswer_L_hasRecord rfl rfl rfl (by decide +kernel) ⟨Nat.le_of_ble_eq_true rfl, Nat.le_of_ble_eq_true rfl⟩) ⟨gblind, gpreT (X := ([] : va_W)) hE hK hP hD hS hA⟩ rfl rfl hl.1 rfl (lv_room (Nat.le_of_ble_eq_true rfl)) dL_isAnswer_4 ⟨Nat.le_of_ble_eq_true rfl, Nat.le_of_ble_eq_true rfl⟩) hP hD hS hA wW_fst (fun r9 H locs hw hP hD hS => ?_)
  have hP : va_P G vwCl (wW T Ad AF ta ca fa ga D mny N f g rk rf rg rh) H := hP
  have hD : va_D (va_A (wW T Ad AF ta ca fa ga D mny N f g rk rf rg rh) s.heap.size) (wW T Ad AF ta ca fa ga D mny N f g rk rf rg rh) := hD
  subst hw
  refine gtop (y := sRec (N j)) (has9 n1 n2) ?_
  refine lv_if_eq (tgt := 17) hx hb dL_isAnswer_7 (by decide) (fun c7 => ?_) (fun c7 => ?_)
  · skip
    refine lv_iconst (v := (-1)) hx hb dL_isAnswer_17 (by decide) ?_
    refine gtop (y := sAns (N j)) (by rw [sAns, if_pos c7]) ?_
    refine lv_istore (lv' := [(6, .int (sAns (N j))), (0, .ref (Ad 1)), (1, .ref (Ad 5)), (2, .ref (Ad 6)), (3, .ref (Ad 7)), (4, .ref (Ad 8)), (5, .int (nI j))]) hx hb dL_isAnswer_18 hl (by decide) rfl (fun ls hl => ?_)
    rcases i6 j hj16 with ⟨k0, f0⟩ | ⟨k1, f1, f2, z9, hz9, f4, f3⟩
    · skip
      have hfr : sFresh (rk 0) (rg 0) (rh 0) j (D 3) = 0 := by simp [sFresh, bI, k0]
      refine lv_aload_n hx hb dL_isAnswer_20 rfl (lv_at hl 4 rfl) ?_
      refine lv_iload hx hb dL_isAnswer_21 (lv_at hl 6 rfl) ?_
      refine giald (j := j) hx hb hK hP 2 0 rfl rfl (show (nI j : Int32) = nI j from rfl) (by omega) (by decide) dL_isAnswer_23 ?_
      refine gtop (y := (-1)) f0 ?_
      refine lv_if_lt (tgt := 50) hx hb dL_isAnswer_24 (by decide) (fun c24 => ?_) (fun c24 => ?_)
      · skip
        refine lv_iconst (v := 0) hx hb dL_isAnswer_50 (by decide) ?_
        refine lv_istore (lv' := [(7, .int 0), (6, .int (sAns (N j))), (0, .ref (Ad 1)), (1, .ref (Ad 5)), (2, .ref (Ad 6)), (3, .ref (Ad 7)), (4, .ref (Ad 8)), (5, .int (nI j))]) hx hb dL_isAnswer_51 hl (by decide) rfl (fun ls hl => ?_)
        refine lv_aload_n hx hb dL_isAnswer_53 rfl (lv_at hl 2 rfl) ?_
        refine lv_iconst (v := 0) hx hb dL_isAnswer_54 (by decide) ?_
        refine lv_iload hx hb dL_isAnswer_55 (lv_at hl 7 rfl) ?_
        refine gciT (X := wX4 T Ad ta ca fa ga) (va_runV (As := [.int 0, .int (nI j)]) (rest := []) ⟨hx, hb, hml, hown, hts⟩ (cX2_isStale_c l hl0 G T Ad AF D mny N f g rk rf rg rh j _ (by omega)) (cwV 2 hts gL_isAnswer_X2_isStale rfl rfl rfl (by decide +kernel) ⟨Nat.le_of_ble_eq_true rfl, Nat.le_of_ble_eq_true rfl⟩) ⟨gblind, va_recv hK hP (ci := 2) (q0 := 4) rfl rfl, gpreT (X := wX4 T Ad ta ca fa ga) hE hK hP hD hS hA⟩ rfl rfl hl.1 rfl (lv_room (Nat.le_of_ble_eq_true rfl)) dL_isAnswer_57 ⟨Nat.le_of_ble_eq_true rfl, Nat.le_of_ble_eq_true rfl⟩) hP hD hS hA wC_fst (fun r9 H locs hw hP hD hS => ?_)
        have hP : va_P G vwCl (wW T Ad AF ta ca fa ga D mny N f g rk rf rg rh) H := hP
        have hD : va_D (va_A (wW T Ad AF ta ca fa ga D mny N f g rk rf rg rh) s.heap.size) (wW T Ad AF ta ca fa ga D mny N f g rk rf rg rh) := hD
        subst hw
        refine gtop (y := 0) (by rw [sStale, if_pos hfr]) ?_
        refine lv_iload hx hb dL_isAnswer_60 (lv_at hl 0 rfl) ?_
        refine lv_if_eq (tgt := 81) hx hb dL_isAnswer_62 (by decide) (fun c62 => ?_) (fun c62 => ?_)
        · skip
          refine lv_iconst (v := 0) hx hb dL_isAnswer_81 (by decide) ?_
          refine lv_icmp_ne (tgt := 89) hx hb dL_isAnswer_82 (by decide) (fun c82 => ?_) (fun c82 => ?_)
          · exact absurd c82 (by decide)
          · skip
            refine lv_iconst (v := 1) hx hb dL_isAnswer_85 (by decide) ?_
            refine lv_goto (tgt := 90) hx hb dL_isAnswer_86 (by decide) ?_
            refine lv_istore (lv' := [(8, .int 1), (7, .int 0), (6, .int (sAns (N j))), (0, .ref (Ad 1)), (1, .ref (Ad 5)), (2, .ref (Ad 6)), (3, .ref (Ad 7)), (4, .ref (Ad 8)), (5, .int (nI j))]) hx hb dL_isAnswer_90 hl (by decide) rfl (fun ls hl => ?_)
            refine lv_iload hx hb dL_isAnswer_92 (lv_at hl 1 rfl) ?_
            refine lv_if_ne (tgt := 161) hx hb dL_isAnswer_94 (by decide) (fun c94 => ?_) (fun c94 => ?_)
            · exact absurd c94 (by decide)
            · skip
              refine lv_aload hx hb dL_isAnswer_97 (lv_at hl 7 rfl) ?_
              refine lv_iconst (v := 2) hx hb dL_isAnswer_99 (by decide) ?_
              refine lv_dup2_11 hx hb dL_isAnswer_100 rfl rfl ?_
              refine giald (j := 2) hx hb hK hP 3 0 rfl rfl (show (2 : Int32) = nI 2 from rfl) (by omega) (by decide) dL_isAnswer_101 ?_
              refine lv_aload_n hx hb dL_isAnswer_102 rfl (lv_at hl 6 rfl) ?_
              refine lv_iload hx hb dL_isAnswer_103 (lv_at hl 8 rfl) ?_
              refine giald (j := j) hx hb hK hP 2 0 rfl rfl (show (nI j : Int32) = nI j from rfl) (by omega) (by decide) dL_isAnswer_105 ?_
              refine gtop (y := (-1)) f0 ?_
              refine lv_if_ge (tgt := 113) hx hb dL_isAnswer_106 (by decide) (fun c106 => ?_) (fun c106 => ?_)
              · exact absurd c106 (by decide)
              · skip
                refine lv_iconst (v := 1) hx hb dL_isAnswer_109 (by decide) ?_
                refine lv_goto (tgt := 114) hx hb dL_isAnswer_110 (by decide) ?_
                refine lv_iadd hx hb dL_isAnswer_114 ?_
                refine giast (j := 2) hx hb hK hP hD hS 3 0 rfl rfl (show (2 : Int32) = nI 2 from rfl) (by omega) (by decide) dL_isAnswer_115 (fun H locs hP hD hS => ?_)
                have hP : va_P G vwCl (wW T Ad AF ta ca fa (upd ga 2 ((ga 2) + 1)) D mny N f g rk rf rg rh) H := hP
                have hD : va_D (va_A (wW T Ad AF ta ca fa ga D mny N f g rk rf rg rh) s.heap.size) (wW T Ad AF ta ca fa (upd ga 2 ((ga 2) + 1)) D mny N f g rk rf rg rh) := hD
                refine lv_aload_n hx hb dL_isAnswer_116 rfl (lv_at hl 6 rfl) ?_
                refine lv_iload hx hb dL_isAnswer_117 (lv_at hl 8 rfl) ?_
                refine lv_aload hx hb dL_isAnswer_119 (lv_at hl 7 rfl) ?_
                refine lv_iconst (v := 0) hx hb dL_isAnswer_121 (by decide) ?_
                refine giald (j := 0) hx hb hK hP 3 0 rfl rfl (show (0 : Int32) = nI 0 from rfl) (by omega) (by decide) dL_isAnswer_122 ?_
                refine gtop (y := nI d) i2 ?_
                refine giast (j := j) hx hb hK hP hD hS 2 0 rfl rfl (show (nI j : Int32) = nI j from rfl) (by omega) (by decide) dL_isAnswer_123 (fun H locs hP hD hS => ?_)
                have hP : va_P G vwCl (wW T Ad AF ta ca (upd fa j (nI d)) (upd ga 2 ((ga 2) + 1)) D mny N f g rk rf rg rh) H := hP
                have hD : va_D (va_A (wW T Ad AF ta ca fa ga D mny N f g rk rf rg rh) s.heap.size) (wW T Ad AF ta ca (upd fa j (nI d)) (upd ga 2 ((ga 2) + 1)) D mny N f g rk rf rg rh) := hD
                refine lv_aload_n hx hb dL_isAnswer_124 rfl (lv_at hl 6 rfl) ?_
                refine lv_bipush (v := 16) hx hb dL_isAnswer_125 (by decide) ?_
                refine lv_iload hx hb dL_isAnswer_127 (lv_at hl 8 rfl) ?_
                refine lv_iadd hx hb dL_isAnswer_129 ?_
                refine gtop (y := nI (16 + j)) (nI_add 16 j) ?_
                refine lv_iload hx hb dL_isAnswer_130 (lv_at hl 2 rfl) ?_
                refine giast (j := (16 + j)) hx hb hK hP hD hS 2 0 rfl rfl (show (nI (16 + j) : Int32) = nI (16 + j) from rfl) (by omega) (by decide) dL_isAnswer_132 (fun H locs hP hD hS => ?_)
                have hP : va_P G vwCl (wW T Ad AF ta ca (upd (upd fa j (nI d)) (16 + j) (sAns (N j))) (upd ga 2 ((ga 2) + 1)) D mny N f g rk rf rg rh) H := hP
                have hD : va_D (va_A (wW T Ad AF ta ca fa ga D mny N f g rk rf rg rh) s.heap.size) (wW T Ad AF ta ca (upd (upd fa j (nI d)) (16 + j) (sAns (N j))) (upd ga 2 ((ga 2) + 1)) D mny N f g rk rf rg rh) := hD
                refine lv_aload_n hx hb dL_isAnswer_133 rfl (lv_at hl 6 rfl) ?_
                refine lv_bipush (v := 32) hx hb dL_isAnswer_134 (by decide) ?_
                refine lv_iload hx hb dL_isAnswer_136 (lv_at hl 8 rfl) ?_
                refine lv_iadd hx hb dL_isAnswer_138 ?_
                refine gtop (y := nI (32 + j)) (nI_add 32 j) ?_
                refine lv_aload_n hx hb dL_isAnswer_139 rfl (lv_at hl 4 rfl) ?_
                refine lv_aload_n hx hb dL_isAnswer_140 rfl (lv_at hl 5 rfl) ?_
                refine lv_iload hx hb dL_isAnswer_141 (lv_at hl 8 rfl) ?_
                refine gciT (X := ([] : va_W)) (va_runS (As := [.ref (Ad 5), .ref (Ad 6), .int (nI j)]) (rest := [.int (nI (32 + j)), .ref (Ad 7)]) ⟨hx, hb, hml, hown, hts⟩ (kL_hasRecord l G T Ad AF D mny N f g rk rf rg rh ta ca (upd (upd fa j (nI d)) (16 + j) (sAns (N j))) (upd ga 2 ((ga 2) + 1)) j _ (by omega)) (va_cwS 3 hts gL_isAnswer_L_hasRecord rfl rfl rfl (by decide +kernel) ⟨Nat.le_of_ble_eq_true rfl, Nat.le_of_ble_eq_true rfl⟩) ⟨gblind, gpreT (X := ([] : va_W)) hE hK hP hD hS hA⟩ rfl rfl hl.1 rfl (lv_room (Nat.le_of_ble_eq_true rfl)) dL_isAnswer_143 ⟨Nat.le_of_ble_eq_true rfl, Nat.le_of_ble_eq_true rfl⟩) hP hD hS hA wW_fst (fun r9 H locs hw hP hD hS => ?_)
                have hP : va_P G vwCl (wW T Ad AF ta ca (upd (upd fa j (nI d)) (16 + j) (sAns (N j))) (upd ga 2 ((ga 2) + 1)) D mny N f g rk rf rg rh) H := hP
                have hD : va_D (va_A (wW T Ad AF ta ca fa ga D mny N f g rk rf rg rh) s.heap.size) (wW T Ad AF ta ca (upd (upd fa j (nI d)) (16 + j) (sAns (N j))) (upd ga 2 ((ga 2) + 1)) D mny N f g rk rf rg rh) := hD
                subst hw
                refine gtop (y := sRec (N j)) (has9 n1 n2) ?_
                refine lv_if_eq (tgt := 159) hx hb dL_isAnswer_146 (by decide) (fun c146 => ?_) (fun c146 => ?_)
                · skip
                  refine lv_iconst (v := 5) hx hb dL_isAnswer_159 (by decide) ?_
                  refine gtop (y := sLife (N j)) (by rw [sLife, if_pos c7]) ?_
                  refine giast (j := (32 + j)) hx hb hK hP hD hS 2 0 rfl rfl (show (nI (32 + j) : Int32) = nI (32 + j) from rfl) (by omega) (by decide) dL_isAnswer_160 (fun H locs hP hD hS => ?_)
                  have hP : va_P G vwCl (wW T Ad AF ta ca (upd (upd (upd fa j (nI d)) (16 + j) (sAns (N j))) (32 + j) (sLife (N j))) (upd ga 2 ((ga 2) + 1)) D mny N f g rk rf rg rh) H := hP
                  have hD : va_D (va_A (wW T Ad AF ta ca fa ga D mny N f g rk rf rg rh) s.heap.size) (wW T Ad AF ta ca (upd (upd (upd fa j (nI d)) (16 + j) (sAns (N j))) (32 + j) (sLife (N j))) (upd ga 2 ((ga 2) + 1)) D mny N f g rk rf rg rh) := hD
                  refine lv_iload hx hb dL_isAnswer_161 (lv_at hl 0 rfl) ?_
                  refine lv_if_eq (tgt := 187) hx hb dL_isAnswer_163 (by decide) (fun c163 => ?_) (fun c163 => ?_)
                  · exact absurd c163 (by decide)
                  · skip
                    refine lv_aload_n hx hb dL_isAnswer_166 rfl (lv_at hl 3 rfl) ?_
                    refine lv_iconst (v := 0) hx hb dL_isAnswer_167 (by decide) ?_
                    refine lv_iload hx hb dL_isAnswer_168 (lv_at hl 8 rfl) ?_
                    refine gciT (X := wX4 T Ad ta ca (upd (upd (upd fa j (nI d)) (16 + j) (sAns (N j))) (32 + j) (sLife (N j))) (upd ga 2 ((ga 2) + 1))) (va_runV (As := [.int 0, .int (nI j)]) (rest := []) ⟨hx, hb, hml, hown, hts⟩ (cX2_lookUp_c l hl0 G T Ad AF D mny N f g rk rf rg rh j _ (by omega)) (cwV 2 hts gL_isAnswer_X2_lookUp rfl rfl rfl (by decide +kernel) ⟨Nat.le_of_ble_eq_true rfl, Nat.le_of_ble_eq_true rfl⟩) ⟨gblind, va_recv hK hP (ci := 2) (q0 := 4) rfl rfl, gpreT (X := wX4 T Ad ta ca (upd (upd (upd fa j (nI d)) (16 + j) (sAns (N j))) (32 + j) (sLife (N j))) (upd ga 2 ((ga 2) + 1))) hE hK hP hD hS hA⟩ rfl rfl hl.1 rfl (lv_room (Nat.le_of_ble_eq_true rfl)) dL_isAnswer_170 ⟨Nat.le_of_ble_eq_true rfl, Nat.le_of_ble_eq_true rfl⟩) hP hD hS hA wC_fst (fun r9 H locs hw hP hD hS => ?_)
                    have hP : va_P G vwCl (wW T Ad AF ta ca (upd (upd (upd fa j (nI d)) (16 + j) (sAns (N j))) (32 + j) (sLife (N j))) (upd ga 2 ((ga 2) + 1)) D mny N f g (updA rk 0 (sLook (sFresh (rk 0) (rg 0) (rh 0) j (D 3)) (rk 0) j 1)) (updA rf 0 (sLook (sFresh (rk 0) (rg 0) (rh 0) j (D 3)) (rf 0) j (sAns (N j)))) (updA rg 0 (sLook (sFresh (rk 0) (rg 0) (rh 0) j (D 3)) (rg 0) j (sLife (N j)))) (updA rh 0 (sLook (sFresh (rk 0) (rg 0) (rh 0) j (D 3)) (rh 0) j (D 3)))) H := hP
                    have hD : va_D (va_A (wW T Ad AF ta ca fa ga D mny N f g rk rf rg rh) s.heap.size) (wW T Ad AF ta ca (upd (upd (upd fa j (nI d)) (16 + j) (sAns (N j))) (32 + j) (sLife (N j))) (upd ga 2 ((ga 2) + 1)) D mny N f g (updA rk 0 (sLook (sFresh (rk 0) (rg 0) (rh 0) j (D 3)) (rk 0) j 1)) (updA rf 0 (sLook (sFresh (rk 0) (rg 0) (rh 0) j (D 3)) (rf 0) j (sAns (N j)))) (updA rg 0 (sLook (sFresh (rk 0) (rg 0) (rh 0) j (D 3)) (rg 0) j (sLife (N j)))) (updA rh 0 (sLook (sFresh (rk 0) (rg 0) (rh 0) j (D 3)) (rh 0) j (D 3)))) := hD
                    subst hw
                    refine gtop (y := sAns (N j)) (by rw [sLook, if_pos hfr, upd_at]) ?_
                    refine lv_aload_n hx hb dL_isAnswer_173 rfl (lv_at hl 6 rfl) ?_
                    refine lv_bipush (v := 16) hx hb dL_isAnswer_174 (by decide) ?_
                    refine lv_iload hx hb dL_isAnswer_176 (lv_at hl 8 rfl) ?_
                    refine lv_iadd hx hb dL_isAnswer_178 ?_
                    refine gtop (y := nI (16 + j)) (nI_add 16 j) ?_
                    refine giald (j := (16 + j)) hx hb hK hP 2 0 rfl rfl (show (nI (16 + j) : Int32) = nI (16 + j) from rfl) (by omega) (by decide) dL_isAnswer_179 ?_
                    refine gtop (y := sAns (N j)) (by rw [upd_no (by omega), upd_at]) ?_
                    refine lv_icmp_ne (tgt := 187) hx hb dL_isAnswer_180 (by decide) (fun c180 => ?_) (fun c180 => ?_)
                    · exact absurd rfl c180
                    · skip
                      refine lv_iconst (v := 1) hx hb dL_isAnswer_183 (by decide) ?_
                      refine lv_goto (tgt := 188) hx hb dL_isAnswer_184 (by decide) ?_
                      have hI9 : INV d a D mny N f (updA rk 0 (sLook (sFresh (rk 0) (rg 0) (rh 0) j (D 3)) (rk 0) j 1)) (updA rf 0 (sLook (sFresh (rk 0) (rg 0) (rh 0) j (D 3)) (rf 0) j (sAns (N j)))) (updA rg 0 (sLook (sFresh (rk 0) (rg 0) (rh 0) j (D 3)) (rg 0) j (sLife (N j)))) (updA rh 0 (sLook (sFresh (rk 0) (rg 0) (rh 0) j (D 3)) (rh 0) j (D 3))) ta ca (upd (upd (upd fa j (nI d)) (16 + j) (sAns (N j))) (32 + j) (sLife (N j))) (upd ga 2 ((ga 2) + 1)) := INV.look0 hI hj16 hfr (by rw [if_pos k0])
                      exact W.zret (v := 1) hx hb hr (by decide) (fun w9 ht9 hW => ⟨⟨1, (D, mny, N, f, g, (updA rk 0 (sLook (sFresh (rk 0) (rg 0) (rh 0) j (D 3)) (rk 0) j 1)), (updA rf 0 (sLook (sFresh (rk 0) (rg 0) (rh 0) j (D 3)) (rf 0) j (sAns (N j)))), (updA rg 0 (sLook (sFresh (rk 0) (rg 0) (rh 0) j (D 3)) (rg 0) j (sLife (N j)))), (updA rh 0 (sLook (sFresh (rk 0) (rg 0) (rh 0) j (D 3)) (rh 0) j (D 3))), ta, ca, (upd (upd (upd fa j (nI d)) (16 + j) (sAns (N j))) (32 + j) (sLife (N j))), (upd ga 2 ((ga 2) + 1))), rfl, ⟨rfl, hI9⟩, gBi ht9 (gfin hP (rfl))⟩, hS.F ht9⟩) hS.2.2 dL_isAnswer_188
                · exact absurd c7 c146
        · exact absurd c62 (by decide)
      · exact absurd c24 (by decide)
    · skip
      refine lv_aload_n hx hb dL_isAnswer_20 rfl (lv_at hl 4 rfl) ?_
      refine lv_iload hx hb dL_isAnswer_21 (lv_at hl 6 rfl) ?_
      refine giald (j := j) hx hb hK hP 2 0 rfl rfl (show (nI j : Int32) = nI j from rfl) (by omega) (by decide) dL_isAnswer_23 ?_
      refine gtop (y := nI z9) f3 ?_
      refine lv_if_lt (tgt := 50) hx hb dL_isAnswer_24 (by decide) (fun c24 => ?_) (fun c24 => ?_)
      · exact absurd c24 (nI_pos (by omega))
      · skip
        refine lv_aload hx hb dL_isAnswer_27 (lv_at hl 5 rfl) ?_
        refine lv_iconst (v := 0) hx hb dL_isAnswer_29 (by decide) ?_
        refine giald (j := 0) hx hb hK hP 3 0 rfl rfl (show (0 : Int32) = nI 0 from rfl) (by omega) (by decide) dL_isAnswer_30 ?_
        refine gtop (y := nI d) i2 ?_
        refine lv_aload_n hx hb dL_isAnswer_31 rfl (lv_at hl 4 rfl) ?_
        refine lv_iload hx hb dL_isAnswer_32 (lv_at hl 6 rfl) ?_
        refine giald (j := j) hx hb hK hP 2 0 rfl rfl (show (nI j : Int32) = nI j from rfl) (by omega) (by decide) dL_isAnswer_34 ?_
        refine gtop (y := nI z9) f3 ?_
        refine lv_isub hx hb dL_isAnswer_35 ?_
        refine gtop (y := nI (d - z9)) (pk_sub hz9) ?_
        refine lv_aload_n hx hb dL_isAnswer_36 rfl (lv_at hl 4 rfl) ?_
        refine lv_bipush (v := 32) hx hb dL_isAnswer_37 (by decide) ?_
        refine lv_iload hx hb dL_isAnswer_39 (lv_at hl 6 rfl) ?_
        refine lv_iadd hx hb dL_isAnswer_41 ?_
        refine gtop (y := nI (32 + j)) (nI_add 32 j) ?_
        refine giald (j := (32 + j)) hx hb hK hP 2 0 rfl rfl (show (nI (32 + j) : Int32) = nI (32 + j) from rfl) (by omega) (by decide) dL_isAnswer_42 ?_
        refine gtop (y := rg 0 j) f2 ?_
        refine lv_icmp_ge (tgt := 50) hx hb dL_isAnswer_43 (by decide) (fun c43 => ?_) (fun c43 => ?_)
        · skip
          have hfr : sFresh (rk 0) (rg 0) (rh 0) j (D 3) = 0 := by rw [sFresh, i1, f4, pk_sub hz9, decide_eq_false (fun z => Int32.not_lt.mpr c43 z.2)]; rfl
          refine lv_iconst (v := 0) hx hb dL_isAnswer_50 (by decide) ?_
          refine lv_istore (lv' := [(7, .int 0), (6, .int (sAns (N j))), (0, .ref (Ad 1)), (1, .ref (Ad 5)), (2, .ref (Ad 6)), (3, .ref (Ad 7)), (4, .ref (Ad 8)), (5, .int (nI j))]) hx hb dL_isAnswer_51 hl (by decide) rfl (fun ls hl => ?_)
          refine lv_aload_n hx hb dL_isAnswer_53 rfl (lv_at hl 2 rfl) ?_
          refine lv_iconst (v := 0) hx hb dL_isAnswer_54 (by decide) ?_
          refine lv_iload hx hb dL_isAnswer_55 (lv_at hl 7 rfl) ?_
          refine gciT (X := wX4 T Ad ta ca fa ga) (va_runV (As := [.int 0, .int (nI j)]) (rest := []) ⟨hx, hb, hml, hown, hts⟩ (cX2_isStale_c l hl0 G T Ad AF D mny N f g rk rf rg rh j _ (by omega)) (cwV 2 hts gL_isAnswer_X2_isStale rfl rfl rfl (by decide +kernel) ⟨Nat.le_of_ble_eq_true rfl, Nat.le_of_ble_eq_true rfl⟩) ⟨gblind, va_recv hK hP (ci := 2) (q0 := 4) rfl rfl, gpreT (X := wX4 T Ad ta ca fa ga) hE hK hP hD hS hA⟩ rfl rfl hl.1 rfl (lv_room (Nat.le_of_ble_eq_true rfl)) dL_isAnswer_57 ⟨Nat.le_of_ble_eq_true rfl, Nat.le_of_ble_eq_true rfl⟩) hP hD hS hA wC_fst (fun r9 H locs hw hP hD hS => ?_)
          have hP : va_P G vwCl (wW T Ad AF ta ca fa ga D mny N f g rk rf rg rh) H := hP
          have hD : va_D (va_A (wW T Ad AF ta ca fa ga D mny N f g rk rf rg rh) s.heap.size) (wW T Ad AF ta ca fa ga D mny N f g rk rf rg rh) := hD
          subst hw
          refine gtop (y := 0) (by rw [sStale, if_pos hfr]) ?_
          refine lv_iload hx hb dL_isAnswer_60 (lv_at hl 0 rfl) ?_
          refine lv_if_eq (tgt := 81) hx hb dL_isAnswer_62 (by decide) (fun c62 => ?_) (fun c62 => ?_)
          · skip
            refine lv_iconst (v := 0) hx hb dL_isAnswer_81 (by decide) ?_
            refine lv_icmp_ne (tgt := 89) hx hb dL_isAnswer_82 (by decide) (fun c82 => ?_) (fun c82 => ?_)
            · exact absurd c82 (by decide)
            · skip
              refine lv_iconst (v := 1) hx hb dL_isAnswer_85 (by decide) ?_
              refine lv_goto (tgt := 90) hx hb dL_isAnswer_86 (by decide) ?_
              refine lv_istore (lv' := [(8, .int 1), (7, .int 0), (6, .int (sAns (N j))), (0, .ref (Ad 1)), (1, .ref (Ad 5)), (2, .ref (Ad 6)), (3, .ref (Ad 7)), (4, .ref (Ad 8)), (5, .int (nI j))]) hx hb dL_isAnswer_90 hl (by decide) rfl (fun ls hl => ?_)
              refine lv_iload hx hb dL_isAnswer_92 (lv_at hl 1 rfl) ?_
              refine lv_if_ne (tgt := 161) hx hb dL_isAnswer_94 (by decide) (fun c94 => ?_) (fun c94 => ?_)
              · exact absurd c94 (by decide)
              · skip
                refine lv_aload hx hb dL_isAnswer_97 (lv_at hl 7 rfl) ?_
                refine lv_iconst (v := 2) hx hb dL_isAnswer_99 (by decide) ?_
                refine lv_dup2_11 hx hb dL_isAnswer_100 rfl rfl ?_
                refine giald (j := 2) hx hb hK hP 3 0 rfl rfl (show (2 : Int32) = nI 2 from rfl) (by omega) (by decide) dL_isAnswer_101 ?_
                refine lv_aload_n hx hb dL_isAnswer_102 rfl (lv_at hl 6 rfl) ?_
                refine lv_iload hx hb dL_isAnswer_103 (lv_at hl 8 rfl) ?_
                refine giald (j := j) hx hb hK hP 2 0 rfl rfl (show (nI j : Int32) = nI j from rfl) (by omega) (by decide) dL_isAnswer_105 ?_
                refine gtop (y := nI z9) f3 ?_
                refine lv_if_ge (tgt := 113) hx hb dL_isAnswer_106 (by decide) (fun c106 => ?_) (fun c106 => ?_)
                · skip
                  refine lv_iconst (v := 0) hx hb dL_isAnswer_113 (by decide) ?_
                  refine lv_iadd hx hb dL_isAnswer_114 ?_
                  refine giast (j := 2) hx hb hK hP hD hS 3 0 rfl rfl (show (2 : Int32) = nI 2 from rfl) (by omega) (by decide) dL_isAnswer_115 (fun H locs hP hD hS => ?_)
                  have hP : va_P G vwCl (wW T Ad AF ta ca fa (upd ga 2 ((ga 2) + 0)) D mny N f g rk rf rg rh) H := hP
                  have hD : va_D (va_A (wW T Ad AF ta ca fa ga D mny N f g rk rf rg rh) s.heap.size) (wW T Ad AF ta ca fa (upd ga 2 ((ga 2) + 0)) D mny N f g rk rf rg rh) := hD
                  refine lv_aload_n hx hb dL_isAnswer_116 rfl (lv_at hl 6 rfl) ?_
                  refine lv_iload hx hb dL_isAnswer_117 (lv_at hl 8 rfl) ?_
                  refine lv_aload hx hb dL_isAnswer_119 (lv_at hl 7 rfl) ?_
                  refine lv_iconst (v := 0) hx hb dL_isAnswer_121 (by decide) ?_
                  refine giald (j := 0) hx hb hK hP 3 0 rfl rfl (show (0 : Int32) = nI 0 from rfl) (by omega) (by decide) dL_isAnswer_122 ?_
                  refine gtop (y := nI d) i2 ?_
                  refine giast (j := j) hx hb hK hP hD hS 2 0 rfl rfl (show (nI j : Int32) = nI j from rfl) (by omega) (by decide) dL_isAnswer_123 (fun H locs hP hD hS => ?_)
                  have hP : va_P G vwCl (wW T Ad AF ta ca (upd fa j (nI d)) (upd ga 2 ((ga 2) + 0)) D mny N f g rk rf rg rh) H := hP
                  have hD : va_D (va_A (wW T Ad AF ta ca fa ga D mny N f g rk rf rg rh) s.heap.size) (wW T Ad AF ta ca (upd fa j (nI d)) (upd ga 2 ((ga 2) + 0)) D mny N f g rk rf rg rh) := hD
                  refine lv_aload_n hx hb dL_isAnswer_124 rfl (lv_at hl 6 rfl) ?_
                  refine lv_bipush (v := 16) hx hb dL_isAnswer_125 (by decide) ?_
                  refine lv_iload hx hb dL_isAnswer_127 (lv_at hl 8 rfl) ?_
                  refine lv_iadd hx hb dL_isAnswer_129 ?_
                  refine gtop (y := nI (16 + j)) (nI_add 16 j) ?_
                  refine lv_iload hx hb dL_isAnswer_130 (lv_at hl 2 rfl) ?_
                  refine giast (j := (16 + j)) hx hb hK hP hD hS 2 0 rfl rfl (show (nI (16 + j) : Int32) = nI (16 + j) from rfl) (by omega) (by decide) dL_isAnswer_132 (fun H locs hP hD hS => ?_)
                  have hP : va_P G vwCl (wW T Ad AF ta ca (upd (upd fa j (nI d)) (16 + j) (sAns (N j))) (upd ga 2 ((ga 2) + 0)) D mny N f g rk rf rg rh) H := hP
                  have hD : va_D (va_A (wW T Ad AF ta ca fa ga D mny N f g rk rf rg rh) s.heap.size) (wW T Ad AF ta ca (upd (upd fa j (nI d)) (16 + j) (sAns (N j))) (upd ga 2 ((ga 2) + 0)) D mny N f g rk rf rg rh) := hD
                  refine lv_aload_n hx hb dL_isAnswer_133 rfl (lv_at hl 6 rfl) ?_
                  refine lv_bipush (v := 32) hx hb dL_isAnswer_134 (by decide) ?_
                  refine lv_iload hx hb dL_isAnswer_136 (lv_at hl 8 rfl) ?_
                  refine lv_iadd hx hb dL_isAnswer_138 ?_
                  refine gtop (y := nI (32 + j)) (nI_add 32 j) ?_
                  refine lv_aload_n hx hb dL_isAnswer_139 rfl (lv_at hl 4 rfl) ?_
                  refine lv_aload_n hx hb dL_isAnswer_140 rfl (lv_at hl 5 rfl) ?_
                  refine lv_iload hx hb dL_isAnswer_141 (lv_at hl 8 rfl) ?_
                  refine gciT (X := ([] : va_W)) (va_runS (As := [.ref (Ad 5), .ref (Ad 6), .int (nI j)]) (rest := [.int (nI (32 + j)), .ref (Ad 7)]) ⟨hx, hb, hml, hown, hts⟩ (kL_hasRecord l G T Ad AF D mny N f g rk rf rg rh ta ca (upd (upd fa j (nI d)) (16 + j) (sAns (N j))) (upd ga 2 ((ga 2) + 0)) j _ (by omega)) (va_cwS 3 hts gL_isAnswer_L_hasRecord rfl rfl rfl (by decide +kernel) ⟨Nat.le_of_ble_eq_true rfl, Nat.le_of_ble_eq_true rfl⟩) ⟨gblind, gpreT (X := ([] : va_W)) hE hK hP hD hS hA⟩ rfl rfl hl.1 rfl (lv_room (Nat.le_of_ble_eq_true rfl)) dL_isAnswer_143 ⟨Nat.le_of_ble_eq_true rfl, Nat.le_of_ble_eq_true rfl⟩) hP hD hS hA wW_fst (fun r9 H locs hw hP hD hS => ?_)
                  have hP : va_P G vwCl (wW T Ad AF ta ca (upd (upd fa j (nI d)) (16 + j) (sAns (N j))) (upd ga 2 ((ga 2) + 0)) D mny N f g rk rf rg rh) H := hP
                  have hD : va_D (va_A (wW T Ad AF ta ca fa ga D mny N f g rk rf rg rh) s.heap.size) (wW T Ad AF ta ca (upd (upd fa j (nI d)) (16 + j) (sAns (N j))) (upd ga 2 ((ga 2) + 0)) D mny N f g rk rf rg rh) := hD
                  subst hw
                  refine gtop (y := sRec (N j)) (has9 n1 n2) ?_
                  refine lv_if_eq (tgt := 159) hx hb dL_isAnswer_146 (by decide) (fun c146 => ?_) (fun c146 => ?_)
                  · skip
                    refine lv_iconst (v := 5) hx hb dL_isAnswer_159 (by decide) ?_
                    refine gtop (y := sLife (N j)) (by rw [sLife, if_pos c7]) ?_
                    refine giast (j := (32 + j)) hx hb hK hP hD hS 2 0 rfl rfl (show (nI (32 + j) : Int32) = nI (32 + j) from rfl) (by omega) (by decide) dL_isAnswer_160 (fun H locs hP hD hS => ?_)
                    have hP : va_P G vwCl (wW T Ad AF ta ca (upd (upd (upd fa j (nI d)) (16 + j) (sAns (N j))) (32 + j) (sLife (N j))) (upd ga 2 ((ga 2) + 0)) D mny N f g rk rf rg rh) H := hP
                    have hD : va_D (va_A (wW T Ad AF ta ca fa ga D mny N f g rk rf rg rh) s.heap.size) (wW T Ad AF ta ca (upd (upd (upd fa j (nI d)) (16 + j) (sAns (N j))) (32 + j) (sLife (N j))) (upd ga 2 ((ga 2) + 0)) D mny N f g rk rf rg rh) := hD
                    refine lv_iload hx hb dL_isAnswer_161 (lv_at hl 0 rfl) ?_
                    refine lv_if_eq (tgt := 187) hx hb dL_isAnswer_163 (by decide) (fun c163 => ?_) (fun c163 => ?_)
                    · exact absurd c163 (by decide)
                    · skip
                      refine lv_aload_n hx hb dL_isAnswer_166 rfl (lv_at hl 3 rfl) ?_
                      refine lv_iconst (v := 0) hx hb dL_isAnswer_167 (by decide) ?_
                      refine lv_iload hx hb dL_isAnswer_168 (lv_at hl 8 rfl) ?_
                      refine gciT (X := wX4 T Ad ta ca (upd (upd (upd fa j (nI d)) (16 + j) (sAns (N j))) (32 + j) (sLife (N j))) (upd ga 2 ((ga 2) + 0))) (va_runV (As := [.int 0, .int (nI j)]) (rest := []) ⟨hx, hb, hml, hown, hts⟩ (cX2_lookUp_c l hl0 G T Ad AF D mny N f g rk rf rg rh j _ (by omega)) (cwV 2 hts gL_isAnswer_X2_lookUp rfl rfl rfl (by decide +kernel) ⟨Nat.le_of_ble_eq_true rfl, Nat.le_of_ble_eq_true rfl⟩) ⟨gblind, va_recv hK hP (ci := 2) (q0 := 4) rfl rfl, gpreT (X := wX4 T Ad ta ca (upd (upd (upd fa j (nI d)) (16 + j) (sAns (N j))) (32 + j) (sLife (N j))) (upd ga 2 ((ga 2) + 0))) hE hK hP hD hS hA⟩ rfl rfl hl.1 rfl (lv_room (Nat.le_of_ble_eq_true rfl)) dL_isAnswer_170 ⟨Nat.le_of_ble_eq_true rfl, Nat.le_of_ble_eq_true rfl⟩) hP hD hS hA wC_fst (fun r9 H locs hw hP hD hS => ?_)
                      have hP : va_P G vwCl (wW T Ad AF ta ca (upd (upd (upd fa j (nI d)) (16 + j) (sAns (N j))) (32 + j) (sLife (N j))) (upd ga 2 ((ga 2) + 0)) D mny N f g (updA rk 0 (sLook (sFresh (rk 0) (rg 0) (rh 0) j (D 3)) (rk 0) j 1)) (updA rf 0 (sLook (sFresh (rk 0) (rg 0) (rh 0) j (D 3)) (rf 0) j (sAns (N j)))) (updA rg 0 (sLook (sFresh (rk 0) (rg 0) (rh 0) j (D 3)) (rg 0) j (sLife (N j)))) (updA rh 0 (sLook (sFresh (rk 0) (rg 0) (rh 0) j (D 3)) (rh 0) j (D 3)))) H := hP
                      have hD : va_D (va_A (wW T Ad AF ta ca fa ga D mny N f g rk rf rg rh) s.heap.size) (wW T Ad AF ta ca (upd (upd (upd fa j (nI d)) (16 + j) (sAns (N j))) (32 + j) (sLife (N j))) (upd ga 2 ((ga 2) + 0)) D mny N f g (updA rk 0 (sLook (sFresh (rk 0) (rg 0) (rh 0) j (D 3)) (rk 0) j 1)) (updA rf 0 (sLook (sFresh (rk 0) (rg 0) (rh 0) j (D 3)) (rf 0) j (sAns (N j)))) (updA rg 0 (sLook (sFresh (rk 0) (rg 0) (rh 0) j (D 3)) (rg 0) j (sLife (N j)))) (updA rh 0 (sLook (sFresh (rk 0) (rg 0) (rh 0) j (D 3)) (rh 0) j (D 3)))) := hD
                      subst hw
                      refine gtop (y := sAns (N j)) (by rw [sLook, if_pos hfr, upd_at]) ?_
                      refine lv_aload_n hx hb dL_isAnswer_173 rfl (lv_at hl 6 rfl) ?_
                      refine lv_bipush (v := 16) hx hb dL_isAnswer_174 (by decide) ?_
                      refine lv_iload hx hb dL_isAnswer_176 (lv_at hl 8 rfl) ?_
                      refine lv_iadd hx hb dL_isAnswer_178 ?_
                      refine gtop (y := nI (16 + j)) (nI_add 16 j) ?_
                      refine giald (j := (16 + j)) hx hb hK hP 2 0 rfl rfl (show (nI (16 + j) : Int32) = nI (16 + j) from rfl) (by omega) (by decide) dL_isAnswer_179 ?_
                      refine gtop (y := sAns (N j)) (by rw [upd_no (by omega), upd_at]) ?_
                      refine lv_icmp_ne (tgt := 187) hx hb dL_isAnswer_180 (by decide) (fun c180 => ?_) (fun c180 => ?_)
                      · exact absurd rfl c180
                      · skip
                        refine lv_iconst (v := 1) hx hb dL_isAnswer_183 (by decide) ?_
                        refine lv_goto (tgt := 188) hx hb dL_isAnswer_184 (by decide) ?_
                        have hI9 : INV d a D mny N f (updA rk 0 (sLook (sFresh (rk 0) (rg 0) (rh 0) j (D 3)) (rk 0) j 1)) (updA rf 0 (sLook (sFresh (rk 0) (rg 0) (rh 0) j (D 3)) (rf 0) j (sAns (N j)))) (updA rg 0 (sLook (sFresh (rk 0) (rg 0) (rh 0) j (D 3)) (rg 0) j (sLife (N j)))) (updA rh 0 (sLook (sFresh (rk 0) (rg 0) (rh 0) j (D 3)) (rh 0) j (D 3))) ta ca (upd (upd (upd fa j (nI d)) (16 + j) (sAns (N j))) (32 + j) (sLife (N j))) (upd ga 2 ((ga 2) + 0)) := INV.look0 hI hj16 hfr (by rw [k1]; rfl)
                        exact W.zret (v := 1) hx hb hr (by decide) (fun w9 ht9 hW => ⟨⟨1, (D, mny, N, f, g, (updA rk 0 (sLook (sFresh (rk 0) (rg 0) (rh 0) j (D 3)) (rk 0) j 1)), (updA rf 0 (sLook (sFresh (rk 0) (rg 0) (rh 0) j (D 3)) (rf 0) j (sAns (N j)))), (updA rg 0 (sLook (sFresh (rk 0) (rg 0) (rh 0) j (D 3)) (rg 0) j (sLife (N j)))), (updA rh 0 (sLook (sFresh (rk 0) (rg 0) (rh 0) j (D 3)) (rh 0) j (D 3))), ta, ca, (upd (upd (upd fa j (nI d)) (16 + j) (sAns (N j))) (32 + j) (sLife (N j))), (upd ga 2 ((ga 2) + 0))), rfl, ⟨rfl, hI9⟩, gBi ht9 (gfin hP (rfl))⟩, hS.F ht9⟩) hS.2.2 dL_isAnswer_188
                  · exact absurd c7 c146
                · exact absurd (nI_pos' (by omega)) c106
          · exact absurd c62 (by decide)
        · skip
          have hfr : sFresh (rk 0) (rg 0) (rh 0) j (D 3) = 1 := by rw [sFresh, i1, f4, pk_sub hz9, decide_eq_true ⟨by rw [k1]; decide, Int32.not_le.mp c43⟩]; rfl
          refine lv_iconst (v := 1) hx hb dL_isAnswer_46 (by decide) ?_
          refine lv_goto (tgt := 51) hx hb dL_isAnswer_47 (by decide) ?_
          refine lv_istore (lv' := [(7, .int 1), (6, .int (sAns (N j))), (0, .ref (Ad 1)), (1, .ref (Ad 5)), (2, .ref (Ad 6)), (3, .ref (Ad 7)), (4, .ref (Ad 8)), (5, .int (nI j))]) hx hb dL_isAnswer_51 hl (by decide) rfl (fun ls hl => ?_)
          refine lv_aload_n hx hb dL_isAnswer_53 rfl (lv_at hl 2 rfl) ?_
          refine lv_iconst (v := 0) hx hb dL_isAnswer_54 (by decide) ?_
          refine lv_iload hx hb dL_isAnswer_55 (lv_at hl 7 rfl) ?_
          refine gciT (X := wX4 T Ad ta ca fa ga) (va_runV (As := [.int 0, .int (nI j)]) (rest := []) ⟨hx, hb, hml, hown, hts⟩ (cX2_isStale_c l hl0 G T Ad AF D mny N f g rk rf rg rh j _ (by omega)) (cwV 2 hts gL_isAnswer_X2_isStale rfl rfl rfl (by decide +kernel) ⟨Nat.le_of_ble_eq_true rfl, Nat.le_of_ble_eq_true rfl⟩) ⟨gblind, va_recv hK hP (ci := 2) (q0 := 4) rfl rfl, gpreT (X := wX4 T Ad ta ca fa ga) hE hK hP hD hS hA⟩ rfl rfl hl.1 rfl (lv_room (Nat.le_of_ble_eq_true rfl)) dL_isAnswer_57 ⟨Nat.le_of_ble_eq_true rfl, Nat.le_of_ble_eq_true rfl⟩) hP hD hS hA wC_fst (fun r9 H locs hw hP hD hS => ?_)
          have hP : va_P G vwCl (wW T Ad AF ta ca fa ga D mny N f g rk rf rg rh) H := hP
          have hD : va_D (va_A (wW T Ad AF ta ca fa ga D mny N f g rk rf rg rh) s.heap.size) (wW T Ad AF ta ca fa ga D mny N f g rk rf rg rh) := hD
          subst hw
          refine lv_iload hx hb dL_isAnswer_60 (lv_at hl 0 rfl) ?_
          refine lv_if_eq (tgt := 81) hx hb dL_isAnswer_62 (by decide) (fun c62 => ?_) (fun c62 => ?_)
          · exact absurd c62 (by decide)
          · skip
            refine lv_aload_n hx hb dL_isAnswer_65 rfl (lv_at hl 5 rfl) ?_
            refine lv_bipush (v := 16) hx hb dL_isAnswer_66 (by decide) ?_
            refine lv_iload hx hb dL_isAnswer_68 (lv_at hl 7 rfl) ?_
            refine lv_iadd hx hb dL_isAnswer_70 ?_
            refine gtop (y := nI (16 + j)) (nI_add 16 j) ?_
            refine giald (j := (16 + j)) hx hb hK hP 2 0 rfl rfl (show (nI (16 + j) : Int32) = nI (16 + j) from rfl) (by omega) (by decide) dL_isAnswer_71 ?_
            refine gtop (y := rf 0 j) f1 ?_
            refine lv_iload hx hb dL_isAnswer_72 (lv_at hl 1 rfl) ?_
            refine lv_icmp_eq (tgt := 81) hx hb dL_isAnswer_74 (by decide) (fun c74 => ?_) (fun c74 => ?_)
            · skip
              refine lv_iconst (v := 0) hx hb dL_isAnswer_81 (by decide) ?_
              refine lv_icmp_ne (tgt := 89) hx hb dL_isAnswer_82 (by decide) (fun c82 => ?_) (fun c82 => ?_)
              · exact absurd (by rw [sStale, if_neg (by rw [hfr]; decide), if_pos c74]) c82
              · skip
                refine lv_iconst (v := 1) hx hb dL_isAnswer_85 (by decide) ?_
                refine lv_goto (tgt := 90) hx hb dL_isAnswer_86 (by decide) ?_
                refine lv_istore (lv' := [(8, .int 1), (7, .int 1), (6, .int (sAns (N j))), (0, .ref (Ad 1)), (1, .ref (Ad 5)), (2, .ref (Ad 6)), (3, .ref (Ad 7)), (4, .ref (Ad 8)), (5, .int (nI j))]) hx hb dL_isAnswer_90 hl (by decide) rfl (fun ls hl => ?_)
                refine lv_iload hx hb dL_isAnswer_92 (lv_at hl 1 rfl) ?_
                refine lv_if_ne (tgt := 161) hx hb dL_isAnswer_94 (by decide) (fun c94 => ?_) (fun c94 => ?_)
                · skip
                  refine lv_iload hx hb dL_isAnswer_161 (lv_at hl 0 rfl) ?_
                  refine lv_if_eq (tgt := 187) hx hb dL_isAnswer_163 (by decide) (fun c163 => ?_) (fun c163 => ?_)
                  · exact absurd c163 (by decide)
                  · skip
                    refine lv_aload_n hx hb dL_isAnswer_166 rfl (lv_at hl 3 rfl) ?_
                    refine lv_iconst (v := 0) hx hb dL_isAnswer_167 (by decide) ?_
                    refine lv_iload hx hb dL_isAnswer_168 (lv_at hl 8 rfl) ?_
                    refine gciT (X := wX4 T Ad ta ca fa ga) (va_runV (As := [.int 0, .int (nI j)]) (rest := []) ⟨hx, hb, hml, hown, hts⟩ (cX2_lookUp_c l hl0 G T Ad AF D mny N f g rk rf rg rh j _ (by omega)) (cwV 2 hts gL_isAnswer_X2_lookUp rfl rfl rfl (by decide +kernel) ⟨Nat.le_of_ble_eq_true rfl, Nat.le_of_ble_eq_true rfl⟩) ⟨gblind, va_recv hK hP (ci := 2) (q0 := 4) rfl rfl, gpreT (X := wX4 T Ad ta ca fa ga) hE hK hP hD hS hA⟩ rfl rfl hl.1 rfl (lv_room (Nat.le_of_ble_eq_true rfl)) dL_isAnswer_170 ⟨Nat.le_of_ble_eq_true rfl, Nat.le_of_ble_eq_true rfl⟩) hP hD hS hA wC_fst (fun r9 H locs hw hP hD hS => ?_)
                    have hP : va_P G vwCl (wW T Ad AF ta ca fa ga D mny N f g (updA rk 0 (sLook (sFresh (rk 0) (rg 0) (rh 0) j (D 3)) (rk 0) j 1)) (updA rf 0 (sLook (sFresh (rk 0) (rg 0) (rh 0) j (D 3)) (rf 0) j (sAns (N j)))) (updA rg 0 (sLook (sFresh (rk 0) (rg 0) (rh 0) j (D 3)) (rg 0) j (sLife (N j)))) (updA rh 0 (sLook (sFresh (rk 0) (rg 0) (rh 0) j (D 3)) (rh 0) j (D 3)))) H := hP
                    have hD : va_D (va_A (wW T Ad AF ta ca fa ga D mny N f g rk rf rg rh) s.heap.size) (wW T Ad AF ta ca fa ga D mny N f g (updA rk 0 (sLook (sFresh (rk 0) (rg 0) (rh 0) j (D 3)) (rk 0) j 1)) (updA rf 0 (sLook (sFresh (rk 0) (rg 0) (rh 0) j (D 3)) (rf 0) j (sAns (N j)))) (updA rg 0 (sLook (sFresh (rk 0) (rg 0) (rh 0) j (D 3)) (rg 0) j (sLife (N j)))) (updA rh 0 (sLook (sFresh (rk 0) (rg 0) (rh 0) j (D 3)) (rh 0) j (D 3)))) := hD
                    subst hw
                    refine gtop (y := rf 0 j) (by rw [sLook, if_neg (by rw [hfr]; decide)]) ?_
                    refine lv_aload_n hx hb dL_isAnswer_173 rfl (lv_at hl 6 rfl) ?_
                    refine lv_bipush (v := 16) hx hb dL_isAnswer_174 (by decide) ?_
                    refine lv_iload hx hb dL_isAnswer_176 (lv_at hl 8 rfl) ?_
                    refine lv_iadd hx hb dL_isAnswer_178 ?_
                    refine gtop (y := nI (16 + j)) (nI_add 16 j) ?_
                    refine giald (j := (16 + j)) hx hb hK hP 2 0 rfl rfl (show (nI (16 + j) : Int32) = nI (16 + j) from rfl) (by omega) (by decide) dL_isAnswer_179 ?_
                    refine gtop (y := rf 0 j) f1 ?_
                    refine lv_icmp_ne (tgt := 187) hx hb dL_isAnswer_180 (by decide) (fun c180 => ?_) (fun c180 => ?_)
                    · exact absurd rfl c180
                    · skip
                      refine lv_iconst (v := 1) hx hb dL_isAnswer_183 (by decide) ?_
                      refine lv_goto (tgt := 188) hx hb dL_isAnswer_184 (by decide) ?_
                      have hI9 : INV d a D mny N f (updA rk 0 (sLook (sFresh (rk 0) (rg 0) (rh 0) j (D 3)) (rk 0) j 1)) (updA rf 0 (sLook (sFresh (rk 0) (rg 0) (rh 0) j (D 3)) (rf 0) j (sAns (N j)))) (updA rg 0 (sLook (sFresh (rk 0) (rg 0) (rh 0) j (D 3)) (rg 0) j (sLife (N j)))) (updA rh 0 (sLook (sFresh (rk 0) (rg 0) (rh 0) j (D 3)) (rh 0) j (D 3))) ta ca fa ga := INV.look1 hI hfr
                      exact W.zret (v := 1) hx hb hr (by decide) (fun w9 ht9 hW => ⟨⟨1, (D, mny, N, f, g, (updA rk 0 (sLook (sFresh (rk 0) (rg 0) (rh 0) j (D 3)) (rk 0) j 1)), (updA rf 0 (sLook (sFresh (rk 0) (rg 0) (rh 0) j (D 3)) (rf 0) j (sAns (N j)))), (updA rg 0 (sLook (sFresh (rk 0) (rg 0) (rh 0) j (D 3)) (rg 0) j (sLife (N j)))), (updA rh 0 (sLook (sFresh (rk 0) (rg 0) (rh 0) j (D 3)) (rh 0) j (D 3))), ta, ca, fa, ga), rfl, ⟨rfl, hI9⟩, gBi ht9 (gfin hP (rfl))⟩, hS.F ht9⟩) hS.2.2 dL_isAnswer_188
                · exact absurd c94 (by decide)
            · skip
              refine lv_iconst (v := 1) hx hb dL_isAnswer_77 (by decide) ?_
              refine lv_goto (tgt := 82) hx hb dL_isAnswer_78 (by decide) ?_
              refine lv_icmp_ne (tgt := 89) hx hb dL_isAnswer_82 (by decide) (fun c82 => ?_) (fun c82 => ?_)
              · exact absurd (by rw [sStale, if_neg (by rw [hfr]; decide), if_neg c74]) c82
              · skip
                refine lv_iconst (v := 1) hx hb dL_isAnswer_85 (by decide) ?_
                refine lv_goto (tgt := 90) hx hb dL_isAnswer_86 (by decide) ?_
                refine lv_istore (lv' := [(8, .int 1), (7, .int 1), (6, .int (sAns (N j))), (0, .ref (Ad 1)), (1, .ref (Ad 5)), (2, .ref (Ad 6)), (3, .ref (Ad 7)), (4, .ref (Ad 8)), (5, .int (nI j))]) hx hb dL_isAnswer_90 hl (by decide) rfl (fun ls hl => ?_)
                refine lv_iload hx hb dL_isAnswer_92 (lv_at hl 1 rfl) ?_
                refine lv_if_ne (tgt := 161) hx hb dL_isAnswer_94 (by decide) (fun c94 => ?_) (fun c94 => ?_)
                · skip
                  refine lv_iload hx hb dL_isAnswer_161 (lv_at hl 0 rfl) ?_
                  refine lv_if_eq (tgt := 187) hx hb dL_isAnswer_163 (by decide) (fun c163 => ?_) (fun c163 => ?_)
                  · exact absurd c163 (by decide)
                  · skip
                    refine lv_aload_n hx hb dL_isAnswer_166 rfl (lv_at hl 3 rfl) ?_
                    refine lv_iconst (v := 0) hx hb dL_isAnswer_167 (by decide) ?_
                    refine lv_iload hx hb dL_isAnswer_168 (lv_at hl 8 rfl) ?_
                    refine gciT (X := wX4 T Ad ta ca fa ga) (va_runV (As := [.int 0, .int (nI j)]) (rest := []) ⟨hx, hb, hml, hown, hts⟩ (cX2_lookUp_c l hl0 G T Ad AF D mny N f g rk rf rg rh j _ (by omega)) (cwV 2 hts gL_isAnswer_X2_lookUp rfl rfl rfl (by decide +kernel) ⟨Nat.le_of_ble_eq_true rfl, Nat.le_of_ble_eq_true rfl⟩) ⟨gblind, va_recv hK hP (ci := 2) (q0 := 4) rfl rfl, gpreT (X := wX4 T Ad ta ca fa ga) hE hK hP hD hS hA⟩ rfl rfl hl.1 rfl (lv_room (Nat.le_of_ble_eq_true rfl)) dL_isAnswer_170 ⟨Nat.le_of_ble_eq_true rfl, Nat.le_of_ble_eq_true rfl⟩) hP hD hS hA wC_fst (fun r9 H locs hw hP hD hS => ?_)
                    have hP : va_P G vwCl (wW T Ad AF ta ca fa ga D mny N f g (updA rk 0 (sLook (sFresh (rk 0) (rg 0) (rh 0) j (D 3)) (rk 0) j 1)) (updA rf 0 (sLook (sFresh (rk 0) (rg 0) (rh 0) j (D 3)) (rf 0) j (sAns (N j)))) (updA rg 0 (sLook (sFresh (rk 0) (rg 0) (rh 0) j (D 3)) (rg 0) j (sLife (N j)))) (updA rh 0 (sLook (sFresh (rk 0) (rg 0) (rh 0) j (D 3)) (rh 0) j (D 3)))) H := hP
                    have hD : va_D (va_A (wW T Ad AF ta ca fa ga D mny N f g rk rf rg rh) s.heap.size) (wW T Ad AF ta ca fa ga D mny N f g (updA rk 0 (sLook (sFresh (rk 0) (rg 0) (rh 0) j (D 3)) (rk 0) j 1)) (updA rf 0 (sLook (sFresh (rk 0) (rg 0) (rh 0) j (D 3)) (rf 0) j (sAns (N j)))) (updA rg 0 (sLook (sFresh (rk 0) (rg 0) (rh 0) j (D 3)) (rg 0) j (sLife (N j)))) (updA rh 0 (sLook (sFresh (rk 0) (rg 0) (rh 0) j (D 3)) (rh 0) j (D 3)))) := hD
                    subst hw
                    refine gtop (y := rf 0 j) (by rw [sLook, if_neg (by rw [hfr]; decide)]) ?_
                    refine lv_aload_n hx hb dL_isAnswer_173 rfl (lv_at hl 6 rfl) ?_
                    refine lv_bipush (v := 16) hx hb dL_isAnswer_174 (by decide) ?_
                    refine lv_iload hx hb dL_isAnswer_176 (lv_at hl 8 rfl) ?_
                    refine lv_iadd hx hb dL_isAnswer_178 ?_
                    refine gtop (y := nI (16 + j)) (nI_add 16 j) ?_
                    refine giald (j := (16 + j)) hx hb hK hP 2 0 rfl rfl (show (nI (16 + j) : Int32) = nI (16 + j) from rfl) (by omega) (by decide) dL_isAnswer_179 ?_
                    refine gtop (y := rf 0 j) f1 ?_
                    refine lv_icmp_ne (tgt := 187) hx hb dL_isAnswer_180 (by decide) (fun c180 => ?_) (fun c180 => ?_)
                    · exact absurd rfl c180
                    · skip
                      refine lv_iconst (v := 1) hx hb dL_isAnswer_183 (by decide) ?_
                      refine lv_goto (tgt := 188) hx hb dL_isAnswer_184 (by decide) ?_
                      have hI9 : INV d a D mny N f (updA rk 0 (sLook (sFresh (rk 0) (rg 0) (rh 0) j (D 3)) (rk 0) j 1)) (updA rf 0 (sLook (sFresh (rk 0) (rg 0) (rh 0) j (D 3)) (rf 0) j (sAns (N j)))) (updA rg 0 (sLook (sFresh (rk 0) (rg 0) (rh 0) j (D 3)) (rg 0) j (sLife (N j)))) (updA rh 0 (sLook (sFresh (rk 0) (rg 0) (rh 0) j (D 3)) (rh 0) j (D 3))) ta ca fa ga := INV.look1 hI hfr
                      exact W.zret (v := 1) hx hb hr (by decide) (fun w9 ht9 hW => ⟨⟨1, (D, mny, N, f, g, (updA rk 0 (sLook (sFresh (rk 0) (rg 0) (rh 0) j (D 3)) (rk 0) j 1)), (updA rf 0 (sLook (sFresh (rk 0) (rg 0) (rh 0) j (D 3)) (rf 0) j (sAns (N j)))), (updA rg 0 (sLook (sFresh (rk 0) (rg 0) (rh 0) j (D 3)) (rg 0) j (sLife (N j)))), (updA rh 0 (sLook (sFresh (rk 0) (rg 0) (rh 0) j (D 3)) (rh 0) j (D 3))), ta, ca, fa, ga), rfl, ⟨rfl, hI9⟩, gBi ht9 (gfin hP (rfl))⟩, hS.F ht9⟩) hS.2.2 dL_isAnswer_188
                · exact absurd c94 (by decide)
  · skip
    refine lv_aload_n hx hb dL_isAnswer_10 rfl (lv_at hl 2 rfl) ?_
    refine lv_iload hx hb dL_isAnswer_11 (lv_at hl 5 rfl) ?_
    refine giald (j := j) hx hb hK hP 1 0 rfl rfl (show (nI j : Int32) = nI j from rfl) (by omega) (by decide) dL_isAnswer_13 ?_
    refine gtop (y := sAns (N j)) (by rw [sAns, if_neg c7]; exact (n2.2.2.2.1 c7).1) ?_
    refine lv_goto (tgt := 18) hx hb dL_isAnswer_14 (by decide) ?_
    refine lv_istore (lv' := [(6, .int (sAns (N j))), (0, .ref (Ad 1)), (1, .ref (Ad 5)), (2, .ref (Ad 6)), (3, .ref (Ad 7)), (4, .ref (Ad 8)), (5, .int (nI j))]) hx hb dL_isAnswer_18 hl (by decide) rfl (fun ls hl => ?_)
    rcases i6 j hj16 with ⟨k0, f0⟩ | ⟨k1, f1, f2, z9, hz9, f4, f3⟩
    · skip
      have hfr : sFresh (rk 0) (rg 0) (rh 0) j (D 3) = 0 := by simp [sFresh, bI, k0]
      refine lv_aload_n hx hb dL_isAnswer_20 rfl (lv_at hl 4 rfl) ?_
      refine lv_iload hx hb dL_isAnswer_21 (lv_at hl 6 rfl) ?_
      refine giald (j := j) hx hb hK hP 2 0 rfl rfl (show (nI j : Int32) = nI j from rfl) (by omega) (by decide) dL_isAnswer_23 ?_
      refine gtop (y := (-1)) f0 ?_
      refine lv_if_lt (tgt := 50) hx hb dL_isAnswer_24 (by decide) (fun c24 => ?_) (fun c24 => ?_)
      · skip
        refine lv_iconst (v := 0) hx hb dL_isAnswer_50 (by decide) ?_
        refine lv_istore (lv' := [(7, .int 0), (6, .int (sAns (N j))), (0, .ref (Ad 1)), (1, .ref (Ad 5)), (2, .ref (Ad 6)), (3, .ref (Ad 7)), (4, .ref (Ad 8)), (5, .int (nI j))]) hx hb dL_isAnswer_51 hl (by decide) rfl (fun ls hl => ?_)
        refine lv_aload_n hx hb dL_isAnswer_53 rfl (lv_at hl 2 rfl) ?_
        refine lv_iconst (v := 0) hx hb dL_isAnswer_54 (by decide) ?_
        refine lv_iload hx hb dL_isAnswer_55 (lv_at hl 7 rfl) ?_
        refine gciT (X := wX4 T Ad ta ca fa ga) (va_runV (As := [.int 0, .int (nI j)]) (rest := []) ⟨hx, hb, hml, hown, hts⟩ (cX2_isStale_c l hl0 G T Ad AF D mny N f g rk rf rg rh j _ (by omega)) (cwV 2 hts gL_isAnswer_X2_isStale rfl rfl rfl (by decide +kernel) ⟨Nat.le_of_ble_eq_true rfl, Nat.le_of_ble_eq_true rfl⟩) ⟨gblind, va_recv hK hP (ci := 2) (q0 := 4) rfl rfl, gpreT (X := wX4 T Ad ta ca fa ga) hE hK hP hD hS hA⟩ rfl rfl hl.1 rfl (lv_room (Nat.le_of_ble_eq_true rfl)) dL_isAnswer_57 ⟨Nat.le_of_ble_eq_true rfl, Nat.le_of_ble_eq_true rfl⟩) hP hD hS hA wC_fst (fun r9 H locs hw hP hD hS => ?_)
        have hP : va_P G vwCl (wW T Ad AF ta ca fa ga D mny N f g rk rf rg rh) H := hP
        have hD : va_D (va_A (wW T Ad AF ta ca fa ga D mny N f g rk rf rg rh) s.heap.size) (wW T Ad AF ta ca fa ga D mny N f g rk rf rg rh) := hD
        subst hw
        refine gtop (y := 0) (by rw [sStale, if_pos hfr]) ?_
        refine lv_iload hx hb dL_isAnswer_60 (lv_at hl 0 rfl) ?_
        refine lv_if_eq (tgt := 81) hx hb dL_isAnswer_62 (by decide) (fun c62 => ?_) (fun c62 => ?_)
        · skip
          refine lv_iconst (v := 0) hx hb dL_isAnswer_81 (by decide) ?_
          refine lv_icmp_ne (tgt := 89) hx hb dL_isAnswer_82 (by decide) (fun c82 => ?_) (fun c82 => ?_)
          · exact absurd c82 (by decide)
          · skip
            refine lv_iconst (v := 1) hx hb dL_isAnswer_85 (by decide) ?_
            refine lv_goto (tgt := 90) hx hb dL_isAnswer_86 (by decide) ?_
            refine lv_istore (lv' := [(8, .int 1), (7, .int 0), (6, .int (sAns (N j))), (0, .ref (Ad 1)), (1, .ref (Ad 5)), (2, .ref (Ad 6)), (3, .ref (Ad 7)), (4, .ref (Ad 8)), (5, .int (nI j))]) hx hb dL_isAnswer_90 hl (by decide) rfl (fun ls hl => ?_)
            refine lv_iload hx hb dL_isAnswer_92 (lv_at hl 1 rfl) ?_
            refine lv_if_ne (tgt := 161) hx hb dL_isAnswer_94 (by decide) (fun c94 => ?_) (fun c94 => ?_)
            · exact absurd c94 (by decide)
            · skip
              refine lv_aload hx hb dL_isAnswer_97 (lv_at hl 7 rfl) ?_
              refine lv_iconst (v := 2) hx hb dL_isAnswer_99 (by decide) ?_
              refine lv_dup2_11 hx hb dL_isAnswer_100 rfl rfl ?_
              refine giald (j := 2) hx hb hK hP 3 0 rfl rfl (show (2 : Int32) = nI 2 from rfl) (by omega) (by decide) dL_isAnswer_101 ?_
              refine lv_aload_n hx hb dL_isAnswer_102 rfl (lv_at hl 6 rfl) ?_
              refine lv_iload hx hb dL_isAnswer_103 (lv_at hl 8 rfl) ?_
              refine giald (j := j) hx hb hK hP 2 0 rfl rfl (show (nI j : Int32) = nI j from rfl) (by omega) (by decide) dL_isAnswer_105 ?_
              refine gtop (y := (-1)) f0 ?_
              refine lv_if_ge (tgt := 113) hx hb dL_isAnswer_106 (by decide) (fun c106 => ?_) (fun c106 => ?_)
              · exact absurd c106 (by decide)
              · skip
                refine lv_iconst (v := 1) hx hb dL_isAnswer_109 (by decide) ?_
                refine lv_goto (tgt := 114) hx hb dL_isAnswer_110 (by decide) ?_
                refine lv_iadd hx hb dL_isAnswer_114 ?_
                refine giast (j := 2) hx hb hK hP hD hS 3 0 rfl rfl (show (2 : Int32) = nI 2 from rfl) (by omega) (by decide) dL_isAnswer_115 (fun H locs hP hD hS => ?_)
                have hP : va_P G vwCl (wW T Ad AF ta ca fa (upd ga 2 ((ga 2) + 1)) D mny N f g rk rf rg rh) H := hP
                have hD : va_D (va_A (wW T Ad AF ta ca fa ga D mny N f g rk rf rg rh) s.heap.size) (wW T Ad AF ta ca fa (upd ga 2 ((ga 2) + 1)) D mny N f g rk rf rg rh) := hD
                refine lv_aload_n hx hb dL_isAnswer_116 rfl (lv_at hl 6 rfl) ?_
                refine lv_iload hx hb dL_isAnswer_117 (lv_at hl 8 rfl) ?_
                refine lv_aload hx hb dL_isAnswer_119 (lv_at hl 7 rfl) ?_
                refine lv_iconst (v := 0) hx hb dL_isAnswer_121 (by decide) ?_
                refine giald (j := 0) hx hb hK hP 3 0 rfl rfl (show (0 : Int32) = nI 0 from rfl) (by omega) (by decide) dL_isAnswer_122 ?_
                refine gtop (y := nI d) i2 ?_
                refine giast (j := j) hx hb hK hP hD hS 2 0 rfl rfl (show (nI j : Int32) = nI j from rfl) (by omega) (by decide) dL_isAnswer_123 (fun H locs hP hD hS => ?_)
                have hP : va_P G vwCl (wW T Ad AF ta ca (upd fa j (nI d)) (upd ga 2 ((ga 2) + 1)) D mny N f g rk rf rg rh) H := hP
                have hD : va_D (va_A (wW T Ad AF ta ca fa ga D mny N f g rk rf rg rh) s.heap.size) (wW T Ad AF ta ca (upd fa j (nI d)) (upd ga 2 ((ga 2) + 1)) D mny N f g rk rf rg rh) := hD
                refine lv_aload_n hx hb dL_isAnswer_124 rfl (lv_at hl 6 rfl) ?_
                refine lv_bipush (v := 16) hx hb dL_isAnswer_125 (by decide) ?_
                refine lv_iload hx hb dL_isAnswer_127 (lv_at hl 8 rfl) ?_
                refine lv_iadd hx hb dL_isAnswer_129 ?_
                refine gtop (y := nI (16 + j)) (nI_add 16 j) ?_
                refine lv_iload hx hb dL_isAnswer_130 (lv_at hl 2 rfl) ?_
                refine giast (j := (16 + j)) hx hb hK hP hD hS 2 0 rfl rfl (show (nI (16 + j) : Int32) = nI (16 + j) from rfl) (by omega) (by decide) dL_isAnswer_132 (fun H locs hP hD hS => ?_)
                have hP : va_P G vwCl (wW T Ad AF ta ca (upd (upd fa j (nI d)) (16 + j) (sAns (N j))) (upd ga 2 ((ga 2) + 1)) D mny N f g rk rf rg rh) H := hP
                have hD : va_D (va_A (wW T Ad AF ta ca fa ga D mny N f g rk rf rg rh) s.heap.size) (wW T Ad AF ta ca (upd (upd fa j (nI d)) (16 + j) (sAns (N j))) (upd ga 2 ((ga 2) + 1)) D mny N f g rk rf rg rh) := hD
                refine lv_aload_n hx hb dL_isAnswer_133 rfl (lv_at hl 6 rfl) ?_
                refine lv_bipush (v := 32) hx hb dL_isAnswer_134 (by decide) ?_
                refine lv_iload hx hb dL_isAnswer_136 (lv_at hl 8 rfl) ?_
                refine lv_iadd hx hb dL_isAnswer_138 ?_
                refine gtop (y := nI (32 + j)) (nI_add 32 j) ?_
                refine lv_aload_n hx hb dL_isAnswer_139 rfl (lv_at hl 4 rfl) ?_
                refine lv_aload_n hx hb dL_isAnswer_140 rfl (lv_at hl 5 rfl) ?_
                refine lv_iload hx hb dL_isAnswer_141 (lv_at hl 8 rfl) ?_
                refine gciT (X := ([] : va_W)) (va_runS (As := [.ref (Ad 5), .ref (Ad 6), .int (nI j)]) (rest := [.int (nI (32 + j)), .ref (Ad 7)]) ⟨hx, hb, hml, hown, hts⟩ (kL_hasRecord l G T Ad AF D mny N f g rk rf rg rh ta ca (upd (upd fa j (nI d)) (16 + j) (sAns (N j))) (upd ga 2 ((ga 2) + 1)) j _ (by omega)) (va_cwS 3 hts gL_isAnswer_L_hasRecord rfl rfl rfl (by decide +kernel) ⟨Nat.le_of_ble_eq_true rfl, Nat.le_of_ble_eq_true rfl⟩) ⟨gblind, gpreT (X := ([] : va_W)) hE hK hP hD hS hA⟩ rfl rfl hl.1 rfl (lv_room (Nat.le_of_ble_eq_true rfl)) dL_isAnswer_143 ⟨Nat.le_of_ble_eq_true rfl, Nat.le_of_ble_eq_true rfl⟩) hP hD hS hA wW_fst (fun r9 H locs hw hP hD hS => ?_)
                have hP : va_P G vwCl (wW T Ad AF ta ca (upd (upd fa j (nI d)) (16 + j) (sAns (N j))) (upd ga 2 ((ga 2) + 1)) D mny N f g rk rf rg rh) H := hP
                have hD : va_D (va_A (wW T Ad AF ta ca fa ga D mny N f g rk rf rg rh) s.heap.size) (wW T Ad AF ta ca (upd (upd fa j (nI d)) (16 + j) (sAns (N j))) (upd ga 2 ((ga 2) + 1)) D mny N f g rk rf rg rh) := hD
                subst hw
                refine gtop (y := sRec (N j)) (has9 n1 n2) ?_
                refine lv_if_eq (tgt := 159) hx hb dL_isAnswer_146 (by decide) (fun c146 => ?_) (fun c146 => ?_)
                · exact absurd c146 c7
                · skip
                  refine lv_aload_n hx hb dL_isAnswer_149 rfl (lv_at hl 5 rfl) ?_
                  refine lv_bipush (v := 16) hx hb dL_isAnswer_150 (by decide) ?_
                  refine lv_iload hx hb dL_isAnswer_152 (lv_at hl 8 rfl) ?_
                  refine lv_iadd hx hb dL_isAnswer_154 ?_
                  refine gtop (y := nI (16 + j)) (nI_add 16 j) ?_
                  refine giald (j := (16 + j)) hx hb hK hP 1 0 rfl rfl (show (nI (16 + j) : Int32) = nI (16 + j) from rfl) (by omega) (by decide) dL_isAnswer_155 ?_
                  refine gtop (y := sLife (N j)) (by rw [sLife, if_neg c7]; exact (n2.2.2.2.1 c7).2) ?_
                  refine lv_goto (tgt := 160) hx hb dL_isAnswer_156 (by decide) ?_
                  refine giast (j := (32 + j)) hx hb hK hP hD hS 2 0 rfl rfl (show (nI (32 + j) : Int32) = nI (32 + j) from rfl) (by omega) (by decide) dL_isAnswer_160 (fun H locs hP hD hS => ?_)
                  have hP : va_P G vwCl (wW T Ad AF ta ca (upd (upd (upd fa j (nI d)) (16 + j) (sAns (N j))) (32 + j) (sLife (N j))) (upd ga 2 ((ga 2) + 1)) D mny N f g rk rf rg rh) H := hP
                  have hD : va_D (va_A (wW T Ad AF ta ca fa ga D mny N f g rk rf rg rh) s.heap.size) (wW T Ad AF ta ca (upd (upd (upd fa j (nI d)) (16 + j) (sAns (N j))) (32 + j) (sLife (N j))) (upd ga 2 ((ga 2) + 1)) D mny N f g rk rf rg rh) := hD
                  refine lv_iload hx hb dL_isAnswer_161 (lv_at hl 0 rfl) ?_
                  refine lv_if_eq (tgt := 187) hx hb dL_isAnswer_163 (by decide) (fun c163 => ?_) (fun c163 => ?_)
                  · exact absurd c163 (by decide)
                  · skip
                    refine lv_aload_n hx hb dL_isAnswer_166 rfl (lv_at hl 3 rfl) ?_
                    refine lv_iconst (v := 0) hx hb dL_isAnswer_167 (by decide) ?_
                    refine lv_iload hx hb dL_isAnswer_168 (lv_at hl 8 rfl) ?_
                    refine gciT (X := wX4 T Ad ta ca (upd (upd (upd fa j (nI d)) (16 + j) (sAns (N j))) (32 + j) (sLife (N j))) (upd ga 2 ((ga 2) + 1))) (va_runV (As := [.int 0, .int (nI j)]) (rest := []) ⟨hx, hb, hml, hown, hts⟩ (cX2_lookUp_c l hl0 G T Ad AF D mny N f g rk rf rg rh j _ (by omega)) (cwV 2 hts gL_isAnswer_X2_lookUp rfl rfl rfl (by decide +kernel) ⟨Nat.le_of_ble_eq_true rfl, Nat.le_of_ble_eq_true rfl⟩) ⟨gblind, va_recv hK hP (ci := 2) (q0 := 4) rfl rfl, gpreT (X := wX4 T Ad ta ca (upd (upd (upd fa j (nI d)) (16 + j) (sAns (N j))) (32 + j) (sLife (N j))) (upd ga 2 ((ga 2) + 1))) hE hK hP hD hS hA⟩ rfl rfl hl.1 rfl (lv_room (Nat.le_of_ble_eq_true rfl)) dL_isAnswer_170 ⟨Nat.le_of_ble_eq_true rfl, Nat.le_of_ble_eq_true rfl⟩) hP hD hS hA wC_fst (fun r9 H locs hw hP hD hS => ?_)
                    have hP : va_P G vwCl (wW T Ad AF ta ca (upd (upd (upd fa j (nI d)) (16 + j) (sAns (N j))) (32 + j) (sLife (N j))) (upd ga 2 ((ga 2) + 1)) D mny N f g (updA rk 0 (sLook (sFresh (rk 0) (rg 0) (rh 0) j (D 3)) (rk 0) j 1)) (updA rf 0 (sLook (sFresh (rk 0) (rg 0) (rh 0) j (D 3)) (rf 0) j (sAns (N j)))) (updA rg 0 (sLook (sFresh (rk 0) (rg 0) (rh 0) j (D 3)) (rg 0) j (sLife (N j)))) (updA rh 0 (sLook (sFresh (rk 0) (rg 0) (rh 0) j (D 3)) (rh 0) j (D 3)))) H := hP
                    have hD : va_D (va_A (wW T Ad AF ta ca fa ga D mny N f g rk rf rg rh) s.heap.size) (wW T Ad AF ta ca (upd (upd (upd fa j (nI d)) (16 + j) (sAns (N j))) (32 + j) (sLife (N j))) (upd ga 2 ((ga 2) + 1)) D mny N f g (updA rk 0 (sLook (sFresh (rk 0) (rg 0) (rh 0) j (D 3)) (rk 0) j 1)) (updA rf 0 (sLook (sFresh (rk 0) (rg 0) (rh 0) j (D 3)) (rf 0) j (sAns (N j)))) (updA rg 0 (sLook (sFresh (rk 0) (rg 0) (rh 0) j (D 3)) (rg 0) j (sLife (N j)))) (updA rh 0 (sLook (sFresh (rk 0) (rg 0) (rh 0) j (D 3)) (rh 0) j (D 3)))) := hD
                    subst hw
                    refine gtop (y := sAns (N j)) (by rw [sLook, if_pos hfr, upd_at]) ?_
                    refine lv_aload_n hx hb dL_isAnswer_173 rfl (lv_at hl 6 rfl) ?_
                    refine lv_bipush (v := 16) hx hb dL_isAnswer_174 (by decide) ?_
                    refine lv_iload hx hb dL_isAnswer_176 (lv_at hl 8 rfl) ?_
                    refine lv_iadd hx hb dL_isAnswer_178 ?_
                    refine gtop (y := nI (16 + j)) (nI_add 16 j) ?_
                    refine giald (j := (16 + j)) hx hb hK hP 2 0 rfl rfl (show (nI (16 + j) : Int32) = nI (16 + j) from rfl) (by omega) (by decide) dL_isAnswer_179 ?_
                    refine gtop (y := sAns (N j)) (by rw [upd_no (by omega), upd_at]) ?_
                    refine lv_icmp_ne (tgt := 187) hx hb dL_isAnswer_180 (by decide) (fun c180 => ?_) (fun c180 => ?_)
                    · exact absurd rfl c180
                    · skip
                      refine lv_iconst (v := 1) hx hb dL_isAnswer_183 (by decide) ?_
                      refine lv_goto (tgt := 188) hx hb dL_isAnswer_184 (by decide) ?_
                      have hI9 : INV d a D mny N f (updA rk 0 (sLook (sFresh (rk 0) (rg 0) (rh 0) j (D 3)) (rk 0) j 1)) (updA rf 0 (sLook (sFresh (rk 0) (rg 0) (rh 0) j (D 3)) (rf 0) j (sAns (N j)))) (updA rg 0 (sLook (sFresh (rk 0) (rg 0) (rh 0) j (D 3)) (rg 0) j (sLife (N j)))) (updA rh 0 (sLook (sFresh (rk 0) (rg 0) (rh 0) j (D 3)) (rh 0) j (D 3))) ta ca (upd (upd (upd fa j (nI d)) (16 + j) (sAns (N j))) (32 + j) (sLife (N j))) (upd ga 2 ((ga 2) + 1)) := INV.look0 hI hj16 hfr (by rw [if_pos k0])
                      exact W.zret (v := 1) hx hb hr (by decide) (fun w9 ht9 hW => ⟨⟨1, (D, mny, N, f, g, (updA rk 0 (sLook (sFresh (rk 0) (rg 0) (rh 0) j (D 3)) (rk 0) j 1)), (updA rf 0 (sLook (sFresh (rk 0) (rg 0) (rh 0) j (D 3)) (rf 0) j (sAns (N j)))), (updA rg 0 (sLook (sFresh (rk 0) (rg 0) (rh 0) j (D 3)) (rg 0) j (sLife (N j)))), (updA rh 0 (sLook (sFresh (rk 0) (rg 0) (rh 0) j (D 3)) (rh 0) j (D 3))), ta, ca, (upd (upd (upd fa j (nI d)) (16 + j) (sAns (N j))) (32 + j) (sLife (N j))), (upd ga 2 ((ga 2) + 1))), rfl, ⟨rfl, hI9⟩, gBi ht9 (gfin hP (rfl))⟩, hS.F ht9⟩) hS.2.2 dL_isAnswer_188
        · exact absurd c62 (by decide)
      · exact absurd c24 (by decide)
    · skip
      refine lv_aload_n hx hb dL_isAnswer_20 rfl (lv_at hl 4 rfl) ?_
      refine lv_iload hx hb dL_isAnswer_21 (lv_at hl 6 rfl) ?_
      refine giald (j := j) hx hb hK hP 2 0 rfl rfl (show (nI j : Int32) = nI j from rfl) (by omega) (by decide) dL_isAnswer_23 ?_
      refine gtop (y := nI z9) f3 ?_
      refine lv_if_lt (tgt := 50) hx hb dL_isAnswer_24 (by decide) (fun c24 => ?_) (fun c24 => ?_)
      · exact absurd c24 (nI_pos (by omega))
      · skip
        refine lv_aload hx hb dL_isAnswer_27 (lv_at hl 5 rfl) ?_
        refine lv_iconst (v := 0) hx hb dL_isAnswer_29 (by decide) ?_
        refine giald (j := 0) hx hb hK hP 3 0 rfl rfl (show (0 : Int32) = nI 0 from rfl) (by omega) (by decide) dL_isAnswer_30 ?_
        refine gtop (y := nI d) i2 ?_
        refine lv_aload_n hx hb dL_isAnswer_31 rfl (lv_at hl 4 rfl) ?_
        refine lv_iload hx hb dL_isAnswer_32 (lv_at hl 6 rfl) ?_
        refine giald (j := j) hx hb hK hP 2 0 rfl rfl (show (nI j : Int32) = nI j from rfl) (by omega) (by decide) dL_isAnswer_34 ?_
        refine gtop (y := nI z9) f3 ?_
        refine lv_isub hx hb dL_isAnswer_35 ?_
        refine gtop (y := nI (d - z9)) (pk_sub hz9) ?_
        refine lv_aload_n hx hb dL_isAnswer_36 rfl (lv_at hl 4 rfl) ?_
        refine lv_bipush (v := 32) hx hb dL_isAnswer_37 (by decide) ?_
        refine lv_iload hx hb dL_isAnswer_39 (lv_at hl 6 rfl) ?_
        refine lv_iadd hx hb dL_isAnswer_41 ?_
        refine gtop (y := nI (32 + j)) (nI_add 32 j) ?_
        refine giald (j := (32 + j)) hx hb hK hP 2 0 rfl rfl (show (nI (32 + j) : Int32) = nI (32 + j) from rfl) (by omega) (by decide) dL_isAnswer_42 ?_
        refine gtop (y := rg 0 j) f2 ?_
        refine lv_icmp_ge (tgt := 50) hx hb dL_isAnswer_43 (by decide) (fun c43 => ?_) (fun c43 => ?_)
        · skip
          have hfr : sFresh (rk 0) (rg 0) (rh 0) j (D 3) = 0 := by rw [sFresh, i1, f4, pk_sub hz9, decide_eq_false (fun z => Int32.not_lt.mpr c43 z.2)]; rfl
          refine lv_iconst (v := 0) hx hb dL_isAnswer_50 (by decide) ?_
          refine lv_istore (lv' := [(7, .int 0), (6, .int (sAns (N j))), (0, .ref (Ad 1)), (1, .ref (Ad 5)), (2, .ref (Ad 6)), (3, .ref (Ad 7)), (4, .ref (Ad 8)), (5, .int (nI j))]) hx hb dL_isAnswer_51 hl (by decide) rfl (fun ls hl => ?_)
          refine lv_aload_n hx hb dL_isAnswer_53 rfl (lv_at hl 2 rfl) ?_
          refine lv_iconst (v := 0) hx hb dL_isAnswer_54 (by decide) ?_
          refine lv_iload hx hb dL_isAnswer_55 (lv_at hl 7 rfl) ?_
          refine gciT (X := wX4 T Ad ta ca fa ga) (va_runV (As := [.int 0, .int (nI j)]) (rest := []) ⟨hx, hb, hml, hown, hts⟩ (cX2_isStale_c l hl0 G T Ad AF D mny N f g rk rf rg rh j _ (by omega)) (cwV 2 hts gL_isAnswer_X2_isStale rfl rfl rfl (by decide +kernel) ⟨Nat.le_of_ble_eq_true rfl, Nat.le_of_ble_eq_true rfl⟩) ⟨gblind, va_recv hK hP (ci := 2) (q0 := 4) rfl rfl, gpreT (X := wX4 T Ad ta ca fa ga) hE hK hP hD hS hA⟩ rfl rfl hl.1 rfl (lv_room (Nat.le_of_ble_eq_true rfl)) dL_isAnswer_57 ⟨Nat.le_of_ble_eq_true rfl, Nat.le_of_ble_eq_true rfl⟩) hP hD hS hA wC_fst (fun r9 H locs hw hP hD hS => ?_)
          have hP : va_P G vwCl (wW T Ad AF ta ca fa ga D mny N f g rk rf rg rh) H := hP
          have hD : va_D (va_A (wW T Ad AF ta ca fa ga D mny N f g rk rf rg rh) s.heap.size) (wW T Ad AF ta ca fa ga D mny N f g rk rf rg rh) := hD
          subst hw
          refine gtop (y := 0) (by rw [sStale, if_pos hfr]) ?_
          refine lv_iload hx hb dL_isAnswer_60 (lv_at hl 0 rfl) ?_
          refine lv_if_eq (tgt := 81) hx hb dL_isAnswer_62 (by decide) (fun c62 => ?_) (fun c62 => ?_)
          · skip
            refine lv_iconst (v := 0) hx hb dL_isAnswer_81 (by decide) ?_
            refine lv_icmp_ne (tgt := 89) hx hb dL_isAnswer_82 (by decide) (fun c82 => ?_) (fun c82 => ?_)
            · exact absurd c82 (by decide)
            · skip
              refine lv_iconst (v := 1) hx hb dL_isAnswer_85 (by decide) ?_
              refine lv_goto (tgt := 90) hx hb dL_isAnswer_86 (by decide) ?_
              refine lv_istore (lv' := [(8, .int 1), (7, .int 0), (6, .int (sAns (N j))), (0, .ref (Ad 1)), (1, .ref (Ad 5)), (2, .ref (Ad 6)), (3, .ref (Ad 7)), (4, .ref (Ad 8)), (5, .int (nI j))]) hx hb dL_isAnswer_90 hl (by decide) rfl (fun ls hl => ?_)
              refine lv_iload hx hb dL_isAnswer_92 (lv_at hl 1 rfl) ?_
              refine lv_if_ne (tgt := 161) hx hb dL_isAnswer_94 (by decide) (fun c94 => ?_) (fun c94 => ?_)
              · exact absurd c94 (by decide)
              · skip
                refine lv_aload hx hb dL_isAnswer_97 (lv_at hl 7 rfl) ?_
                refine lv_iconst (v := 2) hx hb dL_isAnswer_99 (by decide) ?_
                refine lv_dup2_11 hx hb dL_isAnswer_100 rfl rfl ?_
                refine giald (j := 2) hx hb hK hP 3 0 rfl rfl (show (2 : Int32) = nI 2 from rfl) (by omega) (by decide) dL_isAnswer_101 ?_
                refine lv_aload_n hx hb dL_isAnswer_102 rfl (lv_at hl 6 rfl) ?_
                refine lv_iload hx hb dL_isAnswer_103 (lv_at hl 8 rfl) ?_
                refine giald (j := j) hx hb hK hP 2 0 rfl rfl (show (nI j : Int32) = nI j from rfl) (by omega) (by decide) dL_isAnswer_105 ?_
                refine gtop (y := nI z9) f3 ?_
                refine lv_if_ge (tgt := 113) hx hb dL_isAnswer_106 (by decide) (fun c106 => ?_) (fun c106 => ?_)
                · skip
                  refine lv_iconst (v := 0) hx hb dL_isAnswer_113 (by decide) ?_
                  refine lv_iadd hx hb dL_isAnswer_114 ?_
                  refine giast (j := 2) hx hb hK hP hD hS 3 0 rfl rfl (show (2 : Int32) = nI 2 from rfl) (by omega) (by decide) dL_isAnswer_115 (fun H locs hP hD hS => ?_)
                  have hP : va_P G vwCl (wW T Ad AF ta ca fa (upd ga 2 ((ga 2) + 0)) D mny N f g rk rf rg rh) H := hP
                  have hD : va_D (va_A (wW T Ad AF ta ca fa ga D mny N f g rk rf rg rh) s.heap.size) (wW T Ad AF ta ca fa (upd ga 2 ((ga 2) + 0)) D mny N f g rk rf rg rh) := hD
                  refine lv_aload_n hx hb dL_isAnswer_116 rfl (lv_at hl 6 rfl) ?_
                  refine lv_iload hx hb dL_isAnswer_117 (lv_at hl 8 rfl) ?_
                  refine lv_aload hx hb dL_isAnswer_119 (lv_at hl 7 rfl) ?_
                  refine lv_iconst (v := 0) hx hb dL_isAnswer_121 (by decide) ?_
                  refine giald (j := 0) hx hb hK hP 3 0 rfl rfl (show (0 : Int32) = nI 0 from rfl) (by omega) (by decide) dL_isAnswer_122 ?_
                  refine gtop (y := nI d) i2 ?_
                  refine giast (j := j) hx hb hK hP hD hS 2 0 rfl rfl (show (nI j : Int32) = nI j from rfl) (by omega) (by decide) dL_isAnswer_123 (fun H locs hP hD hS => ?_)
                  have hP : va_P G vwCl (wW T Ad AF ta ca (upd fa j (nI d)) (upd ga 2 ((ga 2) + 0)) D mny N f g rk rf rg rh) H := hP
                  have hD : va_D (va_A (wW T Ad AF ta ca fa ga D mny N f g rk rf rg rh) s.heap.size) (wW T Ad AF ta ca (upd fa j (nI d)) (upd ga 2 ((ga 2) + 0)) D mny N f g rk rf rg rh) := hD
                  refine lv_aload_n hx hb dL_isAnswer_124 rfl (lv_at hl 6 rfl) ?_
                  refine lv_bipush (v := 16) hx hb dL_isAnswer_125 (by decide) ?_
                  refine lv_iload hx hb dL_isAnswer_127 (lv_at hl 8 rfl) ?_
                  refine lv_iadd hx hb dL_isAnswer_129 ?_
                  refine gtop (y := nI (16 + j)) (nI_add 16 j) ?_
                  refine lv_iload hx hb dL_isAnswer_130 (lv_at hl 2 rfl) ?_
                  refine giast (j := (16 + j)) hx hb hK hP hD hS 2 0 rfl rfl (show (nI (16 + j) : Int32) = nI (16 + j) from rfl) (by omega) (by decide) dL_isAnswer_132 (fun H locs hP hD hS => ?_)
                  have hP : va_P G vwCl (wW T Ad AF ta ca (upd (upd fa j (nI d)) (16 + j) (sAns (N j))) (upd ga 2 ((ga 2) + 0)) D mny N f g rk rf rg rh) H := hP
                  have hD : va_D (va_A (wW T Ad AF ta ca fa ga D mny N f g rk rf rg rh) s.heap.size) (wW T Ad AF ta ca (upd (upd fa j (nI d)) (16 + j) (sAns (N j))) (upd ga 2 ((ga 2) + 0)) D mny N f g rk rf rg rh) := hD
                  refine lv_aload_n hx hb dL_isAnswer_133 rfl (lv_at hl 6 rfl) ?_
                  refine lv_bipush (v := 32) hx hb dL_isAnswer_134 (by decide) ?_
                  refine lv_iload hx hb dL_isAnswer_136 (lv_at hl 8 rfl) ?_
                  refine lv_iadd hx hb dL_isAnswer_138 ?_
                  refine gtop (y := nI (32 + j)) (nI_add 32 j) ?_
                  refine lv_aload_n hx hb dL_isAnswer_139 rfl (lv_at hl 4 rfl) ?_
                  refine lv_aload_n hx hb dL_isAnswer_140 rfl (lv_at hl 5 rfl) ?_
                  refine lv_iload hx hb dL_isAnswer_141 (lv_at hl 8 rfl) ?_
                  refine gciT (X := ([] : va_W)) (va_runS (As := [.ref (Ad 5), .ref (Ad 6), .int (nI j)]) (rest := [.int (nI (32 + j)), .ref (Ad 7)]) ⟨hx, hb, hml, hown, hts⟩ (kL_hasRecord l G T Ad AF D mny N f g rk rf rg rh ta ca (upd (upd fa j (nI d)) (16 + j) (sAns (N j))) (upd ga 2 ((ga 2) + 0)) j _ (by omega)) (va_cwS 3 hts gL_isAnswer_L_hasRecord rfl rfl rfl (by decide +kernel) ⟨Nat.le_of_ble_eq_true rfl, Nat.le_of_ble_eq_true rfl⟩) ⟨gblind, gpreT (X := ([] : va_W)) hE hK hP hD hS hA⟩ rfl rfl hl.1 rfl (lv_room (Nat.le_of_ble_eq_true rfl)) dL_isAnswer_143 ⟨Nat.le_of_ble_eq_true rfl, Nat.le_of_ble_eq_true rfl⟩) hP hD hS hA wW_fst (fun r9 H locs hw hP hD hS => ?_)
                  have hP : va_P G vwCl (wW T Ad AF ta ca (upd (upd fa j (nI d)) (16 + j) (sAns (N j))) (upd ga 2 ((ga 2) + 0)) D mny N f g rk rf rg rh) H := hP
                  have hD : va_D (va_A (wW T Ad AF ta ca fa ga D mny N f g rk rf rg rh) s.heap.size) (wW T Ad AF ta ca (upd (upd fa j (nI d)) (16 + j) (sAns (N j))) (upd ga 2 ((ga 2) + 0)) D mny N f g rk rf rg rh) := hD
                  subst hw
                  refine gtop (y := sRec (N j)) (has9 n1 n2) ?_
                  refine lv_if_eq (tgt := 159) hx hb dL_isAnswer_146 (by decide) (fun c146 => ?_) (fun c146 => ?_)
                  · exact absurd c146 c7
                  · skip
                    refine lv_aload_n hx hb dL_isAnswer_149 rfl (lv_at hl 5 rfl) ?_
                    refine lv_bipush (v := 16) hx hb dL_isAnswer_150 (by decide) ?_
                    refine lv_iload hx hb dL_isAnswer_152 (lv_at hl 8 rfl) ?_
                    refine lv_iadd hx hb dL_isAnswer_154 ?_
                    refine gtop (y := nI (16 + j)) (nI_add 16 j) ?_
                    refine giald (j := (16 + j)) hx hb hK hP 1 0 rfl rfl (show (nI (16 + j) : Int32) = nI (16 + j) from rfl) (by omega) (by decide) dL_isAnswer_155 ?_
                    refine gtop (y := sLife (N j)) (by rw [sLife, if_neg c7]; exact (n2.2.2.2.1 c7).2) ?_
                    refine lv_goto (tgt := 160) hx hb dL_isAnswer_156 (by decide) ?_
                    refine giast (j := (32 + j)) hx hb hK hP hD hS 2 0 rfl rfl (show (nI (32 + j) : Int32) = nI (32 + j) from rfl) (by omega) (by decide) dL_isAnswer_160 (fun H locs hP hD hS => ?_)
                    have hP : va_P G vwCl (wW T Ad AF ta ca (upd (upd (upd fa j (nI d)) (16 + j) (sAns (N j))) (32 + j) (sLife (N j))) (upd ga 2 ((ga 2) + 0)) D mny N f g rk rf rg rh) H := hP
                    have hD : va_D (va_A (wW T Ad AF ta ca fa ga D mny N f g rk rf rg rh) s.heap.size) (wW T Ad AF ta ca (upd (upd (upd fa j (nI d)) (16 + j) (sAns (N j))) (32 + j) (sLife (N j))) (upd ga 2 ((ga 2) + 0)) D mny N f g rk rf rg rh) := hD
                    refine lv_iload hx hb dL_isAnswer_161 (lv_at hl 0 rfl) ?_
                    refine lv_if_eq (tgt := 187) hx hb dL_isAnswer_163 (by decide) (fun c163 => ?_) (fun c163 => ?_)
                    · exact absurd c163 (by decide)
                    · skip
                      refine lv_aload_n hx hb dL_isAnswer_166 rfl (lv_at hl 3 rfl) ?_
                      refine lv_iconst (v := 0) hx hb dL_isAnswer_167 (by decide) ?_
                      refine lv_iload hx hb dL_isAnswer_168 (lv_at hl 8 rfl) ?_
                      refine gciT (X := wX4 T Ad ta ca (upd (upd (upd fa j (nI d)) (16 + j) (sAns (N j))) (32 + j) (sLife (N j))) (upd ga 2 ((ga 2) + 0))) (va_runV (As := [.int 0, .int (nI j)]) (rest := []) ⟨hx, hb, hml, hown, hts⟩ (cX2_lookUp_c l hl0 G T Ad AF D mny N f g rk rf rg rh j _ (by omega)) (cwV 2 hts gL_isAnswer_X2_lookUp rfl rfl rfl (by decide +kernel) ⟨Nat.le_of_ble_eq_true rfl, Nat.le_of_ble_eq_true rfl⟩) ⟨gblind, va_recv hK hP (ci := 2) (q0 := 4) rfl rfl, gpreT (X := wX4 T Ad ta ca (upd (upd (upd fa j (nI d)) (16 + j) (sAns (N j))) (32 + j) (sLife (N j))) (upd ga 2 ((ga 2) + 0))) hE hK hP hD hS hA⟩ rfl rfl hl.1 rfl (lv_room (Nat.le_of_ble_eq_true rfl)) dL_isAnswer_170 ⟨Nat.le_of_ble_eq_true rfl, Nat.le_of_ble_eq_true rfl⟩) hP hD hS hA wC_fst (fun r9 H locs hw hP hD hS => ?_)
                      have hP : va_P G vwCl (wW T Ad AF ta ca (upd (upd (upd fa j (nI d)) (16 + j) (sAns (N j))) (32 + j) (sLife (N j))) (upd ga 2 ((ga 2) + 0)) D mny N f g (updA rk 0 (sLook (sFresh (rk 0) (rg 0) (rh 0) j (D 3)) (rk 0) j 1)) (updA rf 0 (sLook (sFresh (rk 0) (rg 0) (rh 0) j (D 3)) (rf 0) j (sAns (N j)))) (updA rg 0 (sLook (sFresh (rk 0) (rg 0) (rh 0) j (D 3)) (rg 0) j (sLife (N j)))) (updA rh 0 (sLook (sFresh (rk 0) (rg 0) (rh 0) j (D 3)) (rh 0) j (D 3)))) H := hP
                      have hD : va_D (va_A (wW T Ad AF ta ca fa ga D mny N f g rk rf rg rh) s.heap.size) (wW T Ad AF ta ca (upd (upd (upd fa j (nI d)) (16 + j) (sAns (N j))) (32 + j) (sLife (N j))) (upd ga 2 ((ga 2) + 0)) D mny N f g (updA rk 0 (sLook (sFresh (rk 0) (rg 0) (rh 0) j (D 3)) (rk 0) j 1)) (updA rf 0 (sLook (sFresh (rk 0) (rg 0) (rh 0) j (D 3)) (rf 0) j (sAns (N j)))) (updA rg 0 (sLook (sFresh (rk 0) (rg 0) (rh 0) j (D 3)) (rg 0) j (sLife (N j)))) (updA rh 0 (sLook (sFresh (rk 0) (rg 0) (rh 0) j (D 3)) (rh 0) j (D 3)))) := hD
                      subst hw
                      refine gtop (y := sAns (N j)) (by rw [sLook, if_pos hfr, upd_at]) ?_
                      refine lv_aload_n hx hb dL_isAnswer_173 rfl (lv_at hl 6 rfl) ?_
                      refine lv_bipush (v := 16) hx hb dL_isAnswer_174 (by decide) ?_
                      refine lv_iload hx hb dL_isAnswer_176 (lv_at hl 8 rfl) ?_
                      refine lv_iadd hx hb dL_isAnswer_178 ?_
                      refine gtop (y := nI (16 + j)) (nI_add 16 j) ?_
                      refine giald (j := (16 + j)) hx hb hK hP 2 0 rfl rfl (show (nI (16 + j) : Int32) = nI (16 + j) from rfl) (by omega) (by decide) dL_isAnswer_179 ?_
                      refine gtop (y := sAns (N j)) (by rw [upd_no (by omega), upd_at]) ?_
                      refine lv_icmp_ne (tgt := 187) hx hb dL_isAnswer_180 (by decide) (fun c180 => ?_) (fun c180 => ?_)
                      · exact absurd rfl c180
                      · skip
                        refine lv_iconst (v := 1) hx hb dL_isAnswer_183 (by decide) ?_
                        refine lv_goto (tgt := 188) hx hb dL_isAnswer_184 (by decide) ?_
                        have hI9 : INV d a D mny N f (updA rk 0 (sLook (sFresh (rk 0) (rg 0) (rh 0) j (D 3)) (rk 0) j 1)) (updA rf 0 (sLook (sFresh (rk 0) (rg 0) (rh 0) j (D 3)) (rf 0) j (sAns (N j)))) (updA rg 0 (sLook (sFresh (rk 0) (rg 0) (rh 0) j (D 3)) (rg 0) j (sLife (N j)))) (updA rh 0 (sLook (sFresh (rk 0) (rg 0) (rh 0) j (D 3)) (rh 0) j (D 3))) ta ca (upd (upd (upd fa j (nI d)) (16 + j) (sAns (N j))) (32 + j) (sLife (N j))) (upd ga 2 ((ga 2) + 0)) := INV.look0 hI hj16 hfr (by rw [k1]; rfl)
                        exact W.zret (v := 1) hx hb hr (by decide) (fun w9 ht9 hW => ⟨⟨1, (D, mny, N, f, g, (updA rk 0 (sLook (sFresh (rk 0) (rg 0) (rh 0) j (D 3)) (rk 0) j 1)), (updA rf 0 (sLook (sFresh (rk 0) (rg 0) (rh 0) j (D 3)) (rf 0) j (sAns (N j)))), (updA rg 0 (sLook (sFresh (rk 0) (rg 0) (rh 0) j (D 3)) (rg 0) j (sLife (N j)))), (updA rh 0 (sLook (sFresh (rk 0) (rg 0) (rh 0) j (D 3)) (rh 0) j (D 3))), ta, ca, (upd (upd (upd fa j (nI d)) (16 + j) (sAns (N j))) (32 + j) (sLife (N j))), (upd ga 2 ((ga 2) + 0))), rfl, ⟨rfl, hI9⟩, gBi ht9 (gfin hP (rfl))⟩, hS.F ht9⟩) hS.2.2 dL_isAnswer_188
                · exact absurd (nI_pos' (by omega)) c106
          · exact absurd c62 (by decide)
        · skip
          have hfr : sFresh (rk 0) (rg 0) (rh 0) j (D 3) = 1 := by rw [sFresh, i1, f4, pk_sub hz9, decide_eq_true ⟨by rw [k1]; decide, Int32.not_le.mp c43⟩]; rfl
          refine lv_iconst (v := 1) hx hb dL_isAnswer_46 (by decide) ?_
          refine lv_goto (tgt := 51) hx hb dL_isAnswer_47 (by decide) ?_
          refine lv_istore (lv' := [(7, .int 1), (6, .int (sAns (N j))), (0, .ref (Ad 1)), (1, .ref (Ad 5)), (2, .ref (Ad 6)), (3, .ref (Ad 7)), (4, .ref (Ad 8)), (5, .int (nI j))]) hx hb dL_isAnswer_51 hl (by decide) rfl (fun ls hl => ?_)
          refine lv_aload_n hx hb dL_isAnswer_53 rfl (lv_at hl 2 rfl) ?_
          refine lv_iconst (v := 0) hx hb dL_isAnswer_54 (by decide) ?_
          refine lv_iload hx hb dL_isAnswer_55 (lv_at hl 7 rfl) ?_
          refine gciT (X := wX4 T Ad ta ca fa ga) (va_runV (As := [.int 0, .int (nI j)]) (rest := []) ⟨hx, hb, hml, hown, hts⟩ (cX2_isStale_c l hl0 G T Ad AF D mny N f g rk rf rg rh j _ (by omega)) (cwV 2 hts gL_isAnswer_X2_isStale rfl rfl rfl (by decide +kernel) ⟨Nat.le_of_ble_eq_true rfl, Nat.le_of_ble_eq_true rfl⟩) ⟨gblind, va_recv hK hP (ci := 2) (q0 := 4) rfl rfl, gpreT (X := wX4 T Ad ta ca fa ga) hE hK hP hD hS hA⟩ rfl rfl hl.1 rfl (lv_room (Nat.le_of_ble_eq_true rfl)) dL_isAnswer_57 ⟨Nat.le_of_ble_eq_true rfl, Nat.le_of_ble_eq_true rfl⟩) hP hD hS hA wC_fst (fun r9 H locs hw hP hD hS => ?_)
          have hP : va_P G vwCl (wW T Ad AF ta ca fa ga D mny N f g rk rf rg rh) H := hP
          have hD : va_D (va_A (wW T Ad AF ta ca fa ga D mny N f g rk rf rg rh) s.heap.size) (wW T Ad AF ta ca fa ga D mny N f g rk rf rg rh) := hD
          subst hw
          refine lv_iload hx hb dL_isAnswer_60 (lv_at hl 0 rfl) ?_
          refine lv_if_eq (tgt := 81) hx hb dL_isAnswer_62 (by decide) (fun c62 => ?_) (fun c62 => ?_)
          · exact absurd c62 (by decide)
          · skip
            refine lv_aload_n hx hb dL_isAnswer_65 rfl (lv_at hl 5 rfl) ?_
            refine lv_bipush (v := 16) hx hb dL_isAnswer_66 (by decide) ?_
            refine lv_iload hx hb dL_isAnswer_68 (lv_at hl 7 rfl) ?_
            refine lv_iadd hx hb dL_isAnswer_70 ?_
            refine gtop (y := nI (16 + j)) (nI_add 16 j) ?_
            refine giald (j := (16 + j)) hx hb hK hP 2 0 rfl rfl (show (nI (16 + j) : Int32) = nI (16 + j) from rfl) (by omega) (by decide) dL_isAnswer_71 ?_
            refine gtop (y := rf 0 j) f1 ?_
            refine lv_iload hx hb dL_isAnswer_72 (lv_at hl 1 rfl) ?_
            refine lv_icmp_eq (tgt := 81) hx hb dL_isAnswer_74 (by decide) (fun c74 => ?_) (fun c74 => ?_)
            · skip
              refine lv_iconst (v := 0) hx hb dL_isAnswer_81 (by decide) ?_
              refine lv_icmp_ne (tgt := 89) hx hb dL_isAnswer_82 (by decide) (fun c82 => ?_) (fun c82 => ?_)
              · exact absurd (by rw [sStale, if_neg (by rw [hfr]; decide), if_pos c74]) c82
              · skip
                refine lv_iconst (v := 1) hx hb dL_isAnswer_85 (by decide) ?_
                refine lv_goto (tgt := 90) hx hb dL_isAnswer_86 (by decide) ?_
                refine lv_istore (lv' := [(8, .int 1), (7, .int 1), (6, .int (sAns (N j))), (0, .ref (Ad 1)), (1, .ref (Ad 5)), (2, .ref (Ad 6)), (3, .ref (Ad 7)), (4, .ref (Ad 8)), (5, .int (nI j))]) hx hb dL_isAnswer_90 hl (by decide) rfl (fun ls hl => ?_)
                refine lv_iload hx hb dL_isAnswer_92 (lv_at hl 1 rfl) ?_
                refine lv_if_ne (tgt := 161) hx hb dL_isAnswer_94 (by decide) (fun c94 => ?_) (fun c94 => ?_)
                · skip
                  refine lv_iload hx hb dL_isAnswer_161 (lv_at hl 0 rfl) ?_
                  refine lv_if_eq (tgt := 187) hx hb dL_isAnswer_163 (by decide) (fun c163 => ?_) (fun c163 => ?_)
                  · exact absurd c163 (by decide)
                  · skip
                    refine lv_aload_n hx hb dL_isAnswer_166 rfl (lv_at hl 3 rfl) ?_
                    refine lv_iconst (v := 0) hx hb dL_isAnswer_167 (by decide) ?_
                    refine lv_iload hx hb dL_isAnswer_168 (lv_at hl 8 rfl) ?_
                    refine gciT (X := wX4 T Ad ta ca fa ga) (va_runV (As := [.int 0, .int (nI j)]) (rest := []) ⟨hx, hb, hml, hown, hts⟩ (cX2_lookUp_c l hl0 G T Ad AF D mny N f g rk rf rg rh j _ (by omega)) (cwV 2 hts gL_isAnswer_X2_lookUp rfl rfl rfl (by decide +kernel) ⟨Nat.le_of_ble_eq_true rfl, Nat.le_of_ble_eq_true rfl⟩) ⟨gblind, va_recv hK hP (ci := 2) (q0 := 4) rfl rfl, gpreT (X := wX4 T Ad ta ca fa ga) hE hK hP hD hS hA⟩ rfl rfl hl.1 rfl (lv_room (Nat.le_of_ble_eq_true rfl)) dL_isAnswer_170 ⟨Nat.le_of_ble_eq_true rfl, Nat.le_of_ble_eq_true rfl⟩) hP hD hS hA wC_fst (fun r9 H locs hw hP hD hS => ?_)
                    have hP : va_P G vwCl (wW T Ad AF ta ca fa ga D mny N f g (updA rk 0 (sLook (sFresh (rk 0) (rg 0) (rh 0) j (D 3)) (rk 0) j 1)) (updA rf 0 (sLook (sFresh (rk 0) (rg 0) (rh 0) j (D 3)) (rf 0) j (sAns (N j)))) (updA rg 0 (sLook (sFresh (rk 0) (rg 0) (rh 0) j (D 3)) (rg 0) j (sLife (N j)))) (updA rh 0 (sLook (sFresh (rk 0) (rg 0) (rh 0) j (D 3)) (rh 0) j (D 3)))) H := hP
                    have hD : va_D (va_A (wW T Ad AF ta ca fa ga D mny N f g rk rf rg rh) s.heap.size) (wW T Ad AF ta ca fa ga D mny N f g (updA rk 0 (sLook (sFresh (rk 0) (rg 0) (rh 0) j (D 3)) (rk 0) j 1)) (updA rf 0 (sLook (sFresh (rk 0) (rg 0) (rh 0) j (D 3)) (rf 0) j (sAns (N j)))) (updA rg 0 (sLook (sFresh (rk 0) (rg 0) (rh 0) j (D 3)) (rg 0) j (sLife (N j)))) (updA rh 0 (sLook (sFresh (rk 0) (rg 0) (rh 0) j (D 3)) (rh 0) j (D 3)))) := hD
                    subst hw
                    refine gtop (y := rf 0 j) (by rw [sLook, if_neg (by rw [hfr]; decide)]) ?_
                    refine lv_aload_n hx hb dL_isAnswer_173 rfl (lv_at hl 6 rfl) ?_
                    refine lv_bipush (v := 16) hx hb dL_isAnswer_174 (by decide) ?_
                    refine lv_iload hx hb dL_isAnswer_176 (lv_at hl 8 rfl) ?_
                    refine lv_iadd hx hb dL_isAnswer_178 ?_
                    refine gtop (y := nI (16 + j)) (nI_add 16 j) ?_
                    refine giald (j := (16 + j)) hx hb hK hP 2 0 rfl rfl (show (nI (16 + j) : Int32) = nI (16 + j) from rfl) (by omega) (by decide) dL_isAnswer_179 ?_
                    refine gtop (y := rf 0 j) f1 ?_
                    refine lv_icmp_ne (tgt := 187) hx hb dL_isAnswer_180 (by decide) (fun c180 => ?_) (fun c180 => ?_)
                    · exact absurd rfl c180
                    · skip
                      refine lv_iconst (v := 1) hx hb dL_isAnswer_183 (by decide) ?_
                      refine lv_goto (tgt := 188) hx hb dL_isAnswer_184 (by decide) ?_
                      have hI9 : INV d a D mny N f (updA rk 0 (sLook (sFresh (rk 0) (rg 0) (rh 0) j (D 3)) (rk 0) j 1)) (updA rf 0 (sLook (sFresh (rk 0) (rg 0) (rh 0) j (D 3)) (rf 0) j (sAns (N j)))) (updA rg 0 (sLook (sFresh (rk 0) (rg 0) (rh 0) j (D 3)) (rg 0) j (sLife (N j)))) (updA rh 0 (sLook (sFresh (rk 0) (rg 0) (rh 0) j (D 3)) (rh 0) j (D 3))) ta ca fa ga := INV.look1 hI hfr
                      exact W.zret (v := 1) hx hb hr (by decide) (fun w9 ht9 hW => ⟨⟨1, (D, mny, N, f, g, (updA rk 0 (sLook (sFresh (rk 0) (rg 0) (rh 0) j (D 3)) (rk 0) j 1)), (updA rf 0 (sLook (sFresh (rk 0) (rg 0) (rh 0) j (D 3)) (rf 0) j (sAns (N j)))), (updA rg 0 (sLook (sFresh (rk 0) (rg 0) (rh 0) j (D 3)) (rg 0) j (sLife (N j)))), (updA rh 0 (sLook (sFresh (rk 0) (rg 0) (rh 0) j (D 3)) (rh 0) j (D 3))), ta, ca, fa, ga), rfl, ⟨rfl, hI9⟩, gBi ht9 (gfin hP (rfl))⟩, hS.F ht9⟩) hS.2.2 dL_isAnswer_188
                · exact absurd c94 (by decide)
            · skip
              refine lv_iconst (v := 1) hx hb dL_isAnswer_77 (by decide) ?_
              refine lv_goto (tgt := 82) hx hb dL_isAnswer_78 (by decide) ?_
              refine lv_icmp_ne (tgt := 89) hx hb dL_isAnswer_82 (by decide) (fun c82 => ?_) (fun c82 => ?_)
              · exact absurd (by rw [sStale, if_neg (by rw [hfr]; decide), if_neg c74]) c82
              · skip
                refine lv_iconst (v := 1) hx hb dL_isAnswer_85 (by decide) ?_
                refine lv_goto (tgt := 90) hx hb dL_isAnswer_86 (by decide) ?_
                refine lv_istore (lv' := [(8, .int 1), (7, .int 1), (6, .int (sAns (N j))), (0, .ref (Ad 1)), (1, .ref (Ad 5)), (2, .ref (Ad 6)), (3, .ref (Ad 7)), (4, .ref (Ad 8)), (5, .int (nI j))]) hx hb dL_isAnswer_90 hl (by decide) rfl (fun ls hl => ?_)
                refine lv_iload hx hb dL_isAnswer_92 (lv_at hl 1 rfl) ?_
                refine lv_if_ne (tgt := 161) hx hb dL_isAnswer_94 (by decide) (fun c94 => ?_) (fun c94 => ?_)
                · skip
                  refine lv_iload hx hb dL_isAnswer_161 (lv_at hl 0 rfl) ?_
                  refine lv_if_eq (tgt := 187) hx hb dL_isAnswer_163 (by decide) (fun c163 => ?_) (fun c163 => ?_)
                  · exact absurd c163 (by decide)
                  · skip
                    refine lv_aload_n hx hb dL_isAnswer_166 rfl (lv_at hl 3 rfl) ?_
                    refine lv_iconst (v := 0) hx hb dL_isAnswer_167 (by decide) ?_
                    refine lv_iload hx hb dL_isAnswer_168 (lv_at hl 8 rfl) ?_
                    refine gciT (X := wX4 T Ad ta ca fa ga) (va_runV (As := [.int 0, .int (nI j)]) (rest := []) ⟨hx, hb, hml, hown, hts⟩ (cX2_lookUp_c l hl0 G T Ad AF D mny N f g rk rf rg rh j _ (by omega)) (cwV 2 hts gL_isAnswer_X2_lookUp rfl rfl rfl (by decide +kernel) ⟨Nat.le_of_ble_eq_true rfl, Nat.le_of_ble_eq_true rfl⟩) ⟨gblind, va_recv hK hP (ci := 2) (q0 := 4) rfl rfl, gpreT (X := wX4 T Ad ta ca fa ga) hE hK hP hD hS hA⟩ rfl rfl hl.1 rfl (lv_room (Nat.le_of_ble_eq_true rfl)) dL_isAnswer_170 ⟨Nat.le_of_ble_eq_true rfl, Nat.le_of_ble_eq_true rfl⟩) hP hD hS hA wC_fst (fun r9 H locs hw hP hD hS => ?_)
                    have hP : va_P G vwCl (wW T Ad AF ta ca fa ga D mny N f g (updA rk 0 (sLook (sFresh (rk 0) (rg 0) (rh 0) j (D 3)) (rk 0) j 1)) (updA rf 0 (sLook (sFresh (rk 0) (rg 0) (rh 0) j (D 3)) (rf 0) j (sAns (N j)))) (updA rg 0 (sLook (sFresh (rk 0) (rg 0) (rh 0) j (D 3)) (rg 0) j (sLife (N j)))) (updA rh 0 (sLook (sFresh (rk 0) (rg 0) (rh 0) j (D 3)) (rh 0) j (D 3)))) H := hP
                    have hD : va_D (va_A (wW T Ad AF ta ca fa ga D mny N f g rk rf rg rh) s.heap.size) (wW T Ad AF ta ca fa ga D mny N f g (updA rk 0 (sLook (sFresh (rk 0) (rg 0) (rh 0) j (D 3)) (rk 0) j 1)) (updA rf 0 (sLook (sFresh (rk 0) (rg 0) (rh 0) j (D 3)) (rf 0) j (sAns (N j)))) (updA rg 0 (sLook (sFresh (rk 0) (rg 0) (rh 0) j (D 3)) (rg 0) j (sLife (N j)))) (updA rh 0 (sLook (sFresh (rk 0) (rg 0) (rh 0) j (D 3)) (rh 0) j (D 3)))) := hD
                    subst hw
                    refine gtop (y := rf 0 j) (by rw [sLook, if_neg (by rw [hfr]; decide)]) ?_
                    refine lv_aload_n hx hb dL_isAnswer_173 rfl (lv_at hl 6 rfl) ?_
                    refine lv_bipush (v := 16) hx hb dL_isAnswer_174 (by decide) ?_
                    refine lv_iload hx hb dL_isAnswer_176 (lv_at hl 8 rfl) ?_
                    refine lv_iadd hx hb dL_isAnswer_178 ?_
                    refine gtop (y := nI (16 + j)) (nI_add 16 j) ?_
                    refine giald (j := (16 + j)) hx hb hK hP 2 0 rfl rfl (show (nI (16 + j) : Int32) = nI (16 + j) from rfl) (by omega) (by decide) dL_isAnswer_179 ?_
                    refine gtop (y := rf 0 j) f1 ?_
                    refine lv_icmp_ne (tgt := 187) hx hb dL_isAnswer_180 (by decide) (fun c180 => ?_) (fun c180 => ?_)
                    · exact absurd rfl c180
                    · skip
                      refine lv_iconst (v := 1) hx hb dL_isAnswer_183 (by decide) ?_
                      refine lv_goto (tgt := 188) hx hb dL_isAnswer_184 (by decide) ?_
                      have hI9 : INV d a D mny N f (updA rk 0 (sLook (sFresh (rk 0) (rg 0) (rh 0) j (D 3)) (rk 0) j 1)) (updA rf 0 (sLook (sFresh (rk 0) (rg 0) (rh 0) j (D 3)) (rf 0) j (sAns (N j)))) (updA rg 0 (sLook (sFresh (rk 0) (rg 0) (rh 0) j (D 3)) (rg 0) j (sLife (N j)))) (updA rh 0 (sLook (sFresh (rk 0) (rg 0) (rh 0) j (D 3)) (rh 0) j (D 3))) ta ca fa ga := INV.look1 hI hfr
                      exact W.zret (v := 1) hx hb hr (by decide) (fun w9 ht9 hW => ⟨⟨1, (D, mny, N, f, g, (updA rk 0 (sLook (sFresh (rk 0) (rg 0) (rh 0) j (D 3)) (rk 0) j 1)), (updA rf 0 (sLook (sFresh (rk 0) (rg 0) (rh 0) j (D 3)) (rf 0) j (sAns (N j)))), (updA rg 0 (sLook (sFresh (rk 0) (rg 0) (rh 0) j (D 3)) (rg 0) j (sLife (N j)))), (updA rh 0 (sLook (sFresh (rk 0) (rg 0) (rh 0) j (D 3)) (rh 0) j (D 3))), ta, ca, fa, ga), rfl, ⟨rfl, hI9⟩, gBi ht9 (gfin hP (rfl))⟩, hS.F ht9⟩) hS.2.2 dL_isAnswer_188
                · exact absurd c94 (by decide)
