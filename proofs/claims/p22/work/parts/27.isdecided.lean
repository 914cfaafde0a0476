/-! THE LAW'S METHODS: isDecided -/
theorem LI_sees {t c : Nat → Int32} {j : Nat} (hj : j < 16) {N : Nat → Int32} (hc : ¬ sRec N = 0 → c j = N 4 ∧ c (16 + j) = N 5) (h5 : N 0 = 5 → c (32 + j) = if N 6 = 1 then 1 else 0) (hr : ∃ r : Nat, r < 1000 ∧ N 4 = nI r) : LI (upd (upd (upd t j (N 0)) (16 + j) (N 1)) (32 + j) (sDay N)) c j N := by
  refine ⟨?_, ?_, ?_, hc, h5, hr⟩
  · rw [upd_no (by omega), upd_no (by omega), upd_at]
  · rw [upd_no (by omega), upd_at]
  · rw [upd_at]
/-- a dispute about an auction, decided: by 0 or 1 -/
theorem INV.decideA {d a j q : Nat} {b : Int32} {D mny : Nat → Int32} {N f N2 f2 : Nat → Nat → Int32} {rk rf rg rh : Nat → Nat → Int32} {t c F G : Nat → Int32} (h : INV d a D mny N f rk rf rg rh t c F G) (hj : j < 16) (h6 : N j 6 = 1) (hz : Z6 (f j)) (hq : q < 6) (h7 : N j 7 = nI q)
    (hN : N2 = updA N j (sThaw (N j) b (D 3))) (hf : f2 = updA f j (sThawF (N j) (f j))) :
    INV d a D mny N2 f2 rk rf rg rh (upd (upd (upd t j (N2 j 0)) (16 + j) (N2 j 1)) (32 + j) (sDay (N2 j))) (upd (upd (upd c (32 + j) 0) j 0) (16 + j) 10) F G := by
  subst hN hf
  obtain ⟨i1, i2, i3, i4, i5, i6, i7⟩ := id h
  obtain ⟨n1, n2, n3, n4, n5, n6, r, r1, r2⟩ := i5 j hj
  refine INV.one h rfl i3 rfl i4 rfl (fun k hk => updA_no hk) (fun k hk => updA_no hk) (fun k hk hne => ⟨?_, ?_, ?_, ?_, ?_, ?_⟩) ?_ (LI_sees hj ?_ ?_ ?_)
  · rw [upd_no (by omega), upd_no (by omega), upd_no (by omega)]
  · rw [upd_no (by omega), upd_no (by omega), upd_no (by omega)]
  · rw [upd_no (by omega), upd_no (by omega), upd_no (by omega)]
  · rw [upd_no (by omega), upd_no (by omega), upd_no (by omega)]
  · rw [upd_no (by omega), upd_no (by omega), upd_no (by omega)]
  · rw [upd_no (by omega), upd_no (by omega), upd_no (by omega)]
  · rw [updA_at, updA_at, sThaw, if_pos h6, sThawF, if_pos h6]
    by_cases hb : b = 0
    · rw [if_pos hb]
      exact NI.mk0 rfl rfl (fun _ _ => rfl)
    · rw [if_neg hb]
      exact NI.mkH (s := 2) (e := d + 100) (o := q) (by omega) (by omega) hq (by omega) (by omega) rfl h7 ((congrArg (· + (100 : Int32)) i1).trans (nI_add d 100)) (fun _ _ => rfl)
  · rw [updA_at, sThaw, if_pos h6]
    by_cases hb : b = 0
    · rw [if_pos hb]
      intro z
      exact absurd (sRec_0 (s := 0) (by omega) rfl (by omega)) z
    · rw [if_neg hb]
      intro z
      refine ⟨?_, ?_⟩
      · rw [upd_no (by omega), upd_at]; rfl
      · rw [upd_at]; rfl
  · rw [updA_at, sThaw, if_pos h6]
    by_cases hb : b = 0
    · rw [if_pos hb]
      intro z
      exact absurd (show (0 : Int32) = 5 from z) (by decide)
    · rw [if_neg hb]
      intro z
      exact absurd (show (2 : Int32) = 5 from z) (by decide)
  · rw [updA_at, sThaw, if_pos h6]
    by_cases hb : b = 0
    · rw [if_pos hb]
      exact ⟨r, r1, r2⟩
    · rw [if_neg hb]
      exact ⟨0, by omega, rfl⟩
/-- a dispute about a lease, decided -/
theorem INV.decideF {d a j s e o q z : Nat} {b : Int32} {D mny : Nat → Int32} {N f N2 f2 : Nat → Nat → Int32} {rk rf rg rh : Nat → Nat → Int32} {t c F G : Nat → Int32} (h : INV d a D mny N f rk rf rg rh t c F G) (hj : j < 16) (h0 : N j 0 = 5) (hz : Z6 (f j)) (s2 : 2 ≤ s) (s3 : s ≤ 3) (ho : o < 6) (hq : q < 6) (hzd : z ≤ d) (he1 : z + 20 < e + 10 * s) (he2 : e ≤ z + 600) (hd : d < 2 ^ 20) (h6 : N j 6 = nI s) (h1 : N j 1 = nI o) (h7 : N j 7 = nI q) (h8 : N j 8 = nI z) (h3 : N j 3 = nI e)
    (hN : N2 = updA N j (sThaw (N j) b (D 3))) (hf : f2 = updA f j (sThawF (N j) (f j))) :
    INV d a D mny N2 f2 rk rf rg rh (upd (upd (upd t j (N2 j 0)) (16 + j) (N2 j 1)) (32 + j) (sDay (N2 j))) c F G := by
  subst hN hf
  obtain ⟨i1, i2, i3, i4, i5, i6, i7⟩ := id h
  obtain ⟨n1, n2, n3, n4, n5, n6, r, r1, r2⟩ := i5 j hj
  have h61 : ¬ N j 6 = 1 := c0_of s2 s3 h6
  have ed : N j 3 + (D 3 - N j 8) = nI (e + (d - z)) := by rw [h3, i1, h8, pk_sub hzd, nI_add]
  have hrec : ¬ sRec (N j) = 0 := by rw [sRec_5b h0 s2 s3 h6]; decide
  have hso : ∃ o2 : Nat, o2 < 6 ∧ (if b = 0 then N j 1 else N j 7) = nI o2 := by
    by_cases hb : b = 0
    · rw [if_pos hb]; exact ⟨o, ho, h1⟩
    · rw [if_neg hb]; exact ⟨q, hq, h7⟩
  obtain ⟨o2, ho2, e2⟩ := hso
  have eN : sThaw (N j) b (D 3) = upd (upd (upd (N j) 0 (nI s)) 3 (nI (e + (d - z)))) 1 (nI o2) := by rw [sThaw, if_neg h61, h6, ed, e2]
  refine INV.one h rfl i3 rfl i4 rfl (fun k hk => updA_no hk) (fun k hk => updA_no hk) (fun k hk hne => ⟨?_, ?_, ?_, rfl, rfl, rfl⟩) ?_ (LI_sees hj ?_ ?_ ?_)
  · rw [upd_no (by omega), upd_no (by omega), upd_no (by omega)]
  · rw [upd_no (by omega), upd_no (by omega), upd_no (by omega)]
  · rw [upd_no (by omega), upd_no (by omega), upd_no (by omega)]
  · rw [updA_at, updA_at, sThawF, if_neg h61, eN]
    exact NI.mkH (s := s) (e := e + (d - z)) (o := o2) s2 (by omega) ho2 (by omega) (by omega) rfl rfl rfl hz
  · rw [updA_at, eN]
    exact fun _ => n5 hrec
  · rw [updA_at, eN]
    intro w
    have := nI_inj (a := s) (b := 5) (by omega) (by omega) w
    omega
  · rw [updA_at, eN]
    exact ⟨r, r1, r2⟩
abbrev PL_sees_z (G : va_G) (T : Nat → ClassId) (Ad : Nat → Nat) (AF : Nat → Nat → Nat) (D mny : Nat → Int32) (N f g : Nat → Nat → Int32) (rk rf rg rh : Nat → Nat → Int32) (ta ca fa ga : Nat → Int32) (j : Nat) (sz : Nat) : Array Value → State → Prop := gPc G T [.ref (Ad 1), .ref (Ad 5), .int (nI j)] (wW T Ad AF ta ca fa ga D mny N f g rk rf rg rh) sz
abbrev QL_sees_z (G : va_G) (T : Nat → ClassId) (Ad : Nat → Nat) (AF : Nat → Nat → Nat) (D mny : Nat → Int32) (N f g : Nat → Nat → Int32) (rk rf rg rh : Nat → Nat → Int32) (ta ca fa ga : Nat → Int32) (j : Nat) (sz : Nat) : Array Value → State → Outcome → State → Prop := va_Qv (fun _ : Unit => True) (gB G (wW T Ad AF (upd (upd (upd ta j (N j 0)) (16 + j) (N j 1)) (32 + j) (sDay (N j))) ca fa ga D mny N f g rk rf rg rh)) (va_A (wW T Ad AF ta ca fa ga D mny N f g rk rf rg rh) sz)
set_option maxHeartbeats 4000000 in
set_option maxRecDepth 100000 in
theorem kL_sees_z (l : Launch) (hl0 : l.stackTraces = false) (G : va_G) (T : Nat → ClassId) (Ad : Nat → Nat) (AF : Nat → Nat → Nat) (D mny : Nat → Int32) (N f g : Nat → Nat → Int32) (rk rf rg rh : Nat → Nat → Int32) (ta ca fa ga : Nat → Int32) (j : Nat) (sz : Nat) (hj16 : j < 16) : Met l yL_sees wsL_sees ({ frames := 2, cells := 0, slots := 0, locals := 42 } : Room) (PL_sees_z G T Ad AF D mny N f g rk rf rg rh ta ca fa ga j sz) (QL_sees_z G T Ad AF D mny N f g rk rf rg rh ta ca fa ga j sz) 0 0 (va_A (wW T Ad AF ta ca fa ga D mny N f g rk rf rg rh) sz) := by
  refine Met.ofW (cc := cL_sees) (maxL := 3) (ret := none) (by decide) rfl ?_
  intro p e s m args below meth c s₁ B hml hv
  obtain ⟨rfl, hsz, hP, hK, hD0, hE⟩ := hv
  have hx := B.exec
  have hb := B.bytes
  have hr := B.returns
  have hts := atoms_spec (ws := wsL_sees) B.pre
  have hown : s.vm.findClass RL = some m.cls := findClass_of_methodNamed B.named
  have hlocks := B.notSynchronized
  subst hsz
  have hD := hD0.self (sz := s.heap.size)
  have hA : ∀ q : Nat, s.heap.size ≤ q → (va_A (wW T Ad AF ta ca fa ga D mny N f g rk rf rg rh) s.heap.size) q := fun q h => Or.inr h
  have hS : va_S (va_A (wW T Ad AF ta ca fa ga D mny N f g rk rf rg rh) s.heap.size) s.heap s.heap [] := va_S.rf
  have hl := lv_entry ([.ref (Ad 1), .ref (Ad 5), .int (nI j)]) (n := 3) (Nat.le_of_ble_eq_true rfl)
  rw [lg_entry_eq]
  generalize (lg_sl ([.ref (Ad 1), .ref (Ad 5), .int (nI j)]) ++ List.replicate (3 - (lg_sl ([.ref (Ad 1), .ref (Ad 5), .int (nI j)])).length) Slot.unset).toArray = ls at hl ⊢
  have hl : lv_has ls 3 [(0, .ref (Ad 1)), (1, .ref (Ad 5)), (2, .int (nI j))] := hl
  have hP : va_P G vwCl (wW T Ad AF ta ca fa ga D mny N f g rk rf rg rh) s.heap := hP
  refine lv_aload_n hx hb dL_sees_0 rfl (lv_at hl 1 rfl) ?_
  refine lv_iload_n hx hb dL_sees_1 rfl (lv_at hl 2 rfl) ?_
  refine lv_aload_n hx hb dL_sees_2 rfl (lv_at hl 0 rfl) ?_
  refine lv_iload_n hx hb dL_sees_3 rfl (lv_at hl 2 rfl) ?_
  refine gciT (X := wX4 T Ad ta ca fa ga) (va_runV (As := [.int (nI j)]) (rest := [.int (nI j), .ref (Ad 5)]) ⟨hx, hb, hml, hown, hts⟩ (cX2_state_c l hl0 G T Ad AF D mny N f g rk rf rg rh j _ (by omega)) (cwV 1 hts gL_sees_X2_state rfl rfl rfl (by decide +kernel) ⟨Nat.le_of_ble_eq_true rfl, Nat.le_of_ble_eq_true rfl⟩) ⟨gblind, va_recv hK hP (ci := 2) (q0 := 4) rfl rfl, gpreT (X := wX4 T Ad ta ca fa ga) hE hK hP hD hS hA⟩ rfl rfl hl.1 rfl (lv_room (Nat.le_of_ble_eq_true rfl)) dL_sees_4 ⟨Nat.le_of_ble_eq_true rfl, Nat.le_of_ble_eq_true rfl⟩) hP hD hS hA wC_fst (fun r9 H locs hw hP hD hS => ?_)
  have hP : va_P G vwCl (wW T Ad AF ta ca fa ga D mny N f g rk rf rg rh) H := hP
  have hD : va_D (va_A (wW T Ad AF ta ca fa ga D mny N f g rk rf rg rh) s.heap.size) (wW T Ad AF ta ca fa ga D mny N f g rk rf rg rh) := hD
  subst hw
  refine giast (j := j) hx hb hK hP hD hS 0 0 rfl rfl (show (nI j : Int32) = nI j from rfl) (by omega) (by decide) dL_sees_7 (fun H locs hP hD hS => ?_)
  have hP : va_P G vwCl (wW T Ad AF (upd ta j (N j 0)) ca fa ga D mny N f g rk rf rg rh) H := hP
  have hD : va_D (va_A (wW T Ad AF ta ca fa ga D mny N f g rk rf rg rh) s.heap.size) (wW T Ad AF (upd ta j (N j 0)) ca fa ga D mny N f g rk rf rg rh) := hD
  refine lv_aload_n hx hb dL_sees_8 rfl (lv_at hl 1 rfl) ?_
  refine lv_bipush (v := 16) hx hb dL_sees_9 (by decide) ?_
  refine lv_iload_n hx hb dL_sees_11 rfl (lv_at hl 2 rfl) ?_
  refine lv_iadd hx hb dL_sees_12 ?_
  refine gtop (y := nI (16 + j)) (nI_add 16 j) ?_
  refine lv_aload_n hx hb dL_sees_13 rfl (lv_at hl 0 rfl) ?_
  refine lv_iload_n hx hb dL_sees_14 rfl (lv_at hl 2 rfl) ?_
  refine gciT (X := wX4 T Ad (upd ta j (N j 0)) ca fa ga) (va_runV (As := [.int (nI j)]) (rest := [.int (nI (16 + j)), .ref (Ad 5)]) ⟨hx, hb, hml, hown, hts⟩ (cX2_owner_c l hl0 G T Ad AF D mny N f g rk rf rg rh j _ (by omega)) (cwV 1 hts gL_sees_X2_owner rfl rfl rfl (by decide +kernel) ⟨Nat.le_of_ble_eq_true rfl, Nat.le_of_ble_eq_true rfl⟩) ⟨gblind, va_recv hK hP (ci := 2) (q0 := 4) rfl rfl, gpreT (X := wX4 T Ad (upd ta j (N j 0)) ca fa ga) hE hK hP hD hS hA⟩ rfl rfl hl.1 rfl (lv_room (Nat.le_of_ble_eq_true rfl)) dL_sees_15 ⟨Nat.le_of_ble_eq_true rfl, Nat.le_of_ble_eq_true rfl⟩) hP hD hS hA wC_fst (fun r9 H locs hw hP hD hS => ?_)
  have hP : va_P G vwCl (wW T Ad AF (upd ta j (N j 0)) ca fa ga D mny N f g rk rf rg rh) H := hP
  have hD : va_D (va_A (wW T Ad AF ta ca fa ga D mny N f g rk rf rg rh) s.heap.size) (wW T Ad AF (upd ta j (N j 0)) ca fa ga D mny N f g rk rf rg rh) := hD
  subst hw
  refine giast (j := (16 + j)) hx hb hK hP hD hS 0 0 rfl rfl (show (nI (16 + j) : Int32) = nI (16 + j) from rfl) (by omega) (by decide) dL_sees_18 (fun H locs hP hD hS => ?_)
  have hP : va_P G vwCl (wW T Ad AF (upd (upd ta j (N j 0)) (16 + j) (N j 1)) ca fa ga D mny N f g rk rf rg rh) H := hP
  have hD : va_D (va_A (wW T Ad AF ta ca fa ga D mny N f g rk rf rg rh) s.heap.size) (wW T Ad AF (upd (upd ta j (N j 0)) (16 + j) (N j 1)) ca fa ga D mny N f g rk rf rg rh) := hD
  refine lv_aload_n hx hb dL_sees_19 rfl (lv_at hl 1 rfl) ?_
  refine lv_bipush (v := 32) hx hb dL_sees_20 (by decide) ?_
  refine lv_iload_n hx hb dL_sees_22 rfl (lv_at hl 2 rfl) ?_
  refine lv_iadd hx hb dL_sees_23 ?_
  refine gtop (y := nI (32 + j)) (nI_add 32 j) ?_
  refine lv_aload_n hx hb dL_sees_24 rfl (lv_at hl 0 rfl) ?_
  refine lv_iload_n hx hb dL_sees_25 rfl (lv_at hl 2 rfl) ?_
  refine gciT (X := wX4 T Ad (upd (upd ta j (N j 0)) (16 + j) (N j 1)) ca fa ga) (va_runV (As := [.int (nI j)]) (rest := [.int (nI (32 + j)), .ref (Ad 5)]) ⟨hx, hb, hml, hown, hts⟩ (cX2_next_c l hl0 G T Ad AF D mny N f g rk rf rg rh j _ (by omega)) (cwV 1 hts gL_sees_X2_next rfl rfl rfl (by decide +kernel) ⟨Nat.le_of_ble_eq_true rfl, Nat.le_of_ble_eq_true rfl⟩) ⟨gblind, va_recv hK hP (ci := 2) (q0 := 4) rfl rfl, gpreT (X := wX4 T Ad (upd (upd ta j (N j 0)) (16 + j) (N j 1)) ca fa ga) hE hK hP hD hS hA⟩ rfl rfl hl.1 rfl (lv_room (Nat.le_of_ble_eq_true rfl)) dL_sees_26 ⟨Nat.le_of_ble_eq_true rfl, Nat.le_of_ble_eq_true rfl⟩) hP hD hS hA wC_fst (fun r9 H locs hw hP hD hS => ?_)
  have hP : va_P G vwCl (wW T Ad AF (upd (upd ta j (N j 0)) (16 + j) (N j 1)) ca fa ga D mny N f g rk rf rg rh) H := hP
  have hD : va_D (va_A (wW T Ad AF ta ca fa ga D mny N f g rk rf rg rh) s.heap.size) (wW T Ad AF (upd (upd ta j (N j 0)) (16 + j) (N j 1)) ca fa ga D mny N f g rk rf rg rh) := hD
  subst hw
  refine giast (j := (32 + j)) hx hb hK hP hD hS 0 0 rfl rfl (show (nI (32 + j) : Int32) = nI (32 + j) from rfl) (by omega) (by decide) dL_sees_29 (fun H locs hP hD hS => ?_)
  have hP : va_P G vwCl (wW T Ad AF (upd (upd (upd ta j (N j 0)) (16 + j) (N j 1)) (32 + j) (sDay (N j))) ca fa ga D mny N f g rk rf rg rh) H := hP
  have hD : va_D (va_A (wW T Ad AF ta ca fa ga D mny N f g rk rf rg rh) s.heap.size) (wW T Ad AF (upd (upd (upd ta j (N j 0)) (16 + j) (N j 1)) (32 + j) (sDay (N j))) ca fa ga D mny N f g rk rf rg rh) := hD
  exact W.vret hx hb hr (fun t ht9 hW => ⟨⟨(), rfl, trivial, gBi ht9 (gfin hP (rfl))⟩, hS.F ht9⟩) hS.2.2 dL_sees_30
abbrev PL_isDecided_0 (G : va_G) (T : Nat → ClassId) (Ad : Nat → Nat) (AF : Nat → Nat → Nat) (D mny : Nat → Int32) (N f g : Nat → Nat → Int32) (rk rf rg rh : Nat → Nat → Int32) (ta ca fa ga : Nat → Int32) (j d a : Nat) (sz : Nat) : Array Value → State → Prop := gPc G T [.ref (Ad 1), .ref (Ad 5), .ref (Ad 6), .ref (Ad 8), .int (nI j), .int 0] (wW T Ad AF ta ca fa ga D mny N f g rk rf rg rh) sz
abbrev QL_isDecided_0 (G : va_G) (T : Nat → ClassId) (Ad : Nat → Nat) (AF : Nat → Nat → Nat) (D mny : Nat → Int32) (N f g : Nat → Nat → Int32) (rk rf rg rh : Nat → Nat → Int32) (ta ca fa ga : Nat → Int32) (j d a : Nat) (sz : Nat) : Array Value → State → Outcome → State → Prop := va_Qi (fun (r : Int32) (u : UL) => r = 1 ∧ INVu d a u) (fun (u : UL) (w9 : State) => va_P G vwCl (wW T Ad AF u.2.2.2.2.2.2.2.2.2.1 u.2.2.2.2.2.2.2.2.2.2.1 u.2.2.2.2.2.2.2.2.2.2.2.1 u.2.2.2.2.2.2.2.2.2.2.2.2 u.1 u.2.1 u.2.2.1 u.2.2.2.1 u.2.2.2.2.1 u.2.2.2.2.2.1 u.2.2.2.2.2.2.1 u.2.2.2.2.2.2.2.1 u.2.2.2.2.2.2.2.2.1) w9.heap) (va_A (wW T Ad AF ta ca fa ga D mny N f g rk rf rg rh) sz)
set_option maxHeartbeats 4000000 in
set_option maxRecDepth 100000 in
theorem kL_isDecided_0 (l : Launch) (hl0 : l.stackTraces = false) (G : va_G) (T : Nat → ClassId) (Ad : Nat → Nat) (AF : Nat → Nat → Nat) (D mny : Nat → Int32) (N f g : Nat → Nat → Int32) (rk rf rg rh : Nat → Nat → Int32) (ta ca fa ga : Nat → Int32) (j d a : Nat) (sz : Nat) (hI : INV d a D mny N f rk rf rg rh ta ca fa ga) (hd : d < 2 ^ 20) (ha : a < 2 ^ 20) (hnj : j < 4 ∨ j = 16) : Met l yL_isDecided wsL_isDecided ({ frames := 9, cells := 5, slots := 30, locals := 150 } : Room) (PL_isDecided_0 G T Ad AF D mny N f g rk rf rg rh ta ca fa ga j d a sz) (QL_isDecided_0 G T Ad AF D mny N f g rk rf rg rh ta ca fa ga j d a sz) 5 30 (va_A (wW T Ad AF ta ca fa ga D mny N f g rk rf rg rh) sz) := by
  refine Met.ofW (cc := cL_isDecided) (maxL := 8) (ret := (some .boolean)) (by decide) rfl ?_
  intro p e s m args below meth c s₁ B hml hv
  obtain ⟨rfl, hsz, hP, hK, hD0, hE⟩ := hv
  have hx := B.exec
  have hb := B.bytes
  have hr := B.returns
  have hts := atoms_spec (ws := wsL_isDecided) B.pre
  have hown : s.vm.findClass RL = some m.cls := findClass_of_methodNamed B.named
  have hlocks := B.notSynchronized
  subst hsz
  have hD := hD0.self (sz := s.heap.size)
  have hA : ∀ q : Nat, s.heap.size ≤ q → (va_A (wW T Ad AF ta ca fa ga D mny N f g rk rf rg rh) s.heap.size) q := fun q h => Or.inr h
  have hS : va_S (va_A (wW T Ad AF ta ca fa ga D mny N f g rk rf rg rh) s.heap.size) s.heap s.heap [] := va_S.rf
  have hl := lv_entry ([.ref (Ad 1), .ref (Ad 5), .ref (Ad 6), .ref (Ad 8), .int (nI j), .int 0]) (n := 8) (Nat.le_of_ble_eq_true rfl)
  rw [lg_entry_eq]
  generalize (lg_sl ([.ref (Ad 1), .ref (Ad 5), .ref (Ad 6), .ref (Ad 8), .int (nI j), .int 0]) ++ List.replicate (8 - (lg_sl ([.ref (Ad 1), .ref (Ad 5), .ref (Ad 6), .ref (Ad 8), .int (nI j), .int 0])).length) Slot.unset).toArray = ls at hl ⊢
  have hl : lv_has ls 8 [(0, .ref (Ad 1)), (1, .ref (Ad 5)), (2, .ref (Ad 6)), (3, .ref (Ad 8)), (4, .int (nI j)), (5, .int 0)] := hl
  obtain ⟨i1, i2, ⟨m9, p9, j1, j2, j3⟩, i4, i5, i6, i7⟩ := id hI
  have hp9 : p9 < 2 ^ 20 := Nat.lt_of_le_of_lt psum_p (by rw [j3]; exact ha)
  have hm9 : ∀ k, k < 6 → m9 k < 2 ^ 20 := fun k hk => by have := psum_le (p := p9) (m := m9) hk; omega
  have hP : va_P G vwCl (wW T Ad AF ta ca fa ga D mny N f g rk rf rg rh) s.heap := hP
  refine lv_iload hx hb dL_isDecided_0 (lv_at hl 4 rfl) ?_
  refine lv_bipush (v := 16) hx hb dL_isDecided_2 (by decide) ?_
  refine lv_icmp_eq (tgt := 15) hx hb dL_isDecided_4 (by decide) (fun c4 => ?_) (fun c4 => ?_)
  · skip
    have hj9 : j = 16 := nI_inj (b := 16) (by omega) (by omega) c4
    refine lv_aload_n hx hb dL_isDecided_15 rfl (lv_at hl 0 rfl) ?_
    refine lv_bipush (v := 6) hx hb dL_isDecided_16 (by decide) ?_
    refine lv_iload hx hb dL_isDecided_18 (lv_at hl 4 rfl) ?_
    refine lv_iload hx hb dL_isDecided_20 (lv_at hl 5 rfl) ?_
    refine lv_iconst (v := 0) hx hb dL_isDecided_22 (by decide) ?_
    refine gciT (X := wX4 T Ad ta ca fa ga) (vx_runSW (As := [.ref (Ad 1), .int 6, .int (nI j), .int 0, .int 0]) (rest := []) ⟨hx, hb, hml, hown, hts⟩ (cL_does_6_noc l hl0 G T Ad AF D mny N f g rk rf rg rh (j % 16) (nI j) 0 0 _ (Nat.mod_lt _ (by decide)) (ix16 (by omega)) (by decide) (fun h9 => absurd (h9.symm.trans (show kDecide (N (j % 16)) (nI j) = 1 by rw [kDecide_n (by omega), if_neg (by omega)])) (by decide))) (vx_cwSW 5 hts gL_isDecided_L_does rfl rfl rfl (by decide +kernel) ⟨Nat.le_of_ble_eq_true rfl, Nat.le_of_ble_eq_true rfl⟩) ⟨gblind, gpreT (X := wX4 T Ad ta ca fa ga) hE hK hP hD hS hA⟩ rfl rfl hl.1 rfl (lv_room (Nat.le_of_ble_eq_true rfl)) dL_isDecided_23 ⟨Nat.le_of_ble_eq_true rfl, Nat.le_of_ble_eq_true rfl⟩) hP hD hS hA wC_fst (fun r9 H locs hw hP hD hS => ?_)
    have hP : va_P G vwCl (wW T Ad AF ta ca fa ga D mny N f g rk rf rg rh) H := hP
    have hD : va_D (va_A (wW T Ad AF ta ca fa ga D mny N f g rk rf rg rh) s.heap.size) (wW T Ad AF ta ca fa ga D mny N f g rk rf rg rh) := hD
    subst hw
    refine gtop (y := (-30)) (wD_30 (show kDecide (N (j % 16)) (nI j) = 1 by rw [kDecide_n (by omega), if_neg (by omega)])) ?_
    refine lv_iload hx hb dL_isDecided_26 (lv_at hl 4 rfl) ?_
    refine lv_bipush (v := 16) hx hb dL_isDecided_28 (by decide) ?_
    refine lv_icmp_ne (tgt := 38) hx hb dL_isDecided_30 (by decide) (fun c30 => ?_) (fun c30 => ?_)
    · exact absurd c4 c30
    · skip
      refine lv_bipush (v := (-30)) hx hb dL_isDecided_33 (by decide) ?_
      refine lv_goto (tgt := 40) hx hb dL_isDecided_35 (by decide) ?_
      refine lv_icmp_ne (tgt := 47) hx hb dL_isDecided_40 (by decide) (fun c40 => ?_) (fun c40 => ?_)
      · exact absurd c40 (by decide)
      · skip
        refine lv_iconst (v := 1) hx hb dL_isDecided_43 (by decide) ?_
        refine lv_goto (tgt := 48) hx hb dL_isDecided_44 (by decide) ?_
        refine W.widen (k := 5) (n := 30) (Nat.le_of_ble_eq_true rfl) (Nat.le_of_ble_eq_true rfl) ?_
        exact W.zret (v := 1) hx hb hr (by decide) (fun w9 ht9 hW => ⟨⟨1, (D, mny, N, f, g, rk, rf, rg, rh, ta, ca, fa, ga), rfl, ⟨rfl, hI⟩, gBi ht9 (gfin hP (rfl))⟩, hS.F ht9⟩) hS.2.2 dL_isDecided_48
  · skip
    have hj16 : j < 16 := by
      rcases hnj with q9 | q9
      · omega
      · exact absurd (congrArg nI q9) c4
    obtain ⟨n1, n2⟩ := i5 j hj16
    refine lv_aload_n hx hb dL_isDecided_7 rfl (lv_at hl 1 rfl) ?_
    refine lv_iload hx hb dL_isDecided_8 (lv_at hl 4 rfl) ?_
    refine giald (j := j) hx hb hK hP 0 0 rfl rfl (show (nI j : Int32) = nI j from rfl) (by omega) (by decide) dL_isDecided_10 ?_
    refine gtop (y := N j 0) n2.1 ?_
    refine lv_iconst (v := 5) hx hb dL_isDecided_11 (by decide) ?_
    refine lv_icmp_eq (tgt := 49) hx hb dL_isDecided_12 (by decide) (fun c12 => ?_) (fun c12 => ?_)
    · skip
      obtain ⟨hz9, hfz⟩ := n1.at5 c12
      have hc32 := n2.2.2.2.2.1 c12
      rcases hfz with ⟨h6, h1, q, hq6, h7⟩ | ⟨sF, eF, o, q, z9, s2, s3, ho6, hq6, hqo, hzd, he1, he2, h6, h1, h7, h8, h3⟩
      · skip
        refine lv_aload_n hx hb dL_isDecided_49 rfl (lv_at hl 1 rfl) ?_
        refine lv_bipush (v := 16) hx hb dL_isDecided_50 (by decide) ?_
        refine lv_iload hx hb dL_isDecided_52 (lv_at hl 4 rfl) ?_
        refine lv_iadd hx hb dL_isDecided_54 ?_
        refine gtop (y := nI (16 + j)) (nI_add 16 j) ?_
        refine giald (j := (16 + j)) hx hb hK hP 0 0 rfl rfl (show (nI (16 + j) : Int32) = nI (16 + j) from rfl) (by omega) (by decide) dL_isDecided_55 ?_
        refine gtop (y := (-1)) (n2.2.1.trans h1) ?_
        refine lv_istore (lv' := [(6, .int (-1)), (0, .ref (Ad 1)), (1, .ref (Ad 5)), (2, .ref (Ad 6)), (3, .ref (Ad 8)), (4, .int (nI j)), (5, .int 0)]) hx hb dL_isDecided_56 hl (by decide) rfl (fun ls hl => ?_)
        refine lv_aload_n hx hb dL_isDecided_58 rfl (lv_at hl 1 rfl) ?_
        refine lv_bipush (v := 6) hx hb dL_isDecided_59 (by decide) ?_
        refine lv_iload hx hb dL_isDecided_61 (lv_at hl 5 rfl) ?_
        refine lv_iload hx hb dL_isDecided_63 (lv_at hl 6 rfl) ?_
        refine lv_iconst (v := 0) hx hb dL_isDecided_65 (by decide) ?_
        refine gciT (X := wX4 T Ad ta ca fa ga) (vx_runSW (As := [.ref (Ad 1), .int 6, .int (nI j), .int 0, .int 0]) (rest := []) ⟨hx, hb, hml, hown, hts⟩ (cL_does_6_okc l hl0 G T Ad AF D mny N f g rk rf rg rh j 0 0 _ (by omega) (by decide) (by rw [kDecide_n (by omega), if_pos hj16, if_pos c12])) (vx_cwSW 5 hts gL_isDecided_L_does rfl rfl rfl (by decide +kernel) ⟨Nat.le_of_ble_eq_true rfl, Nat.le_of_ble_eq_true rfl⟩) ⟨gblind, gpreT (X := wX4 T Ad ta ca fa ga) hE hK hP hD hS hA⟩ rfl rfl hl.1 rfl (lv_room (Nat.le_of_ble_eq_true rfl)) dL_isDecided_66 ⟨Nat.le_of_ble_eq_true rfl, Nat.le_of_ble_eq_true rfl⟩) hP hD hS hA wC_fst (fun r9 H locs hw hP hD hS => ?_)
        have hP : va_P G vwCl (wW T Ad AF ta ca fa ga D mny (updA N j (sThaw (N j) 0 (D 3))) (updA f j (sThawF (N j) (f j))) g rk rf rg rh) H := hP
        have hD : va_D (va_A (wW T Ad AF ta ca fa ga D mny N f g rk rf rg rh) s.heap.size) (wW T Ad AF ta ca fa ga D mny (updA N j (sThaw (N j) 0 (D 3))) (updA f j (sThawF (N j) (f j))) g rk rf rg rh) := hD
        subst hw
        refine gtop (y := 0) (by rw [sThaw, if_pos h6, if_pos rfl]; rfl) ?_
        refine lv_istore (lv' := [(7, .int 0), (6, .int (-1)), (0, .ref (Ad 1)), (1, .ref (Ad 5)), (2, .ref (Ad 6)), (3, .ref (Ad 8)), (4, .int (nI j)), (5, .int 0)]) hx hb dL_isDecided_69 hl (by decide) rfl (fun ls hl => ?_)
        refine lv_aload_n hx hb dL_isDecided_71 rfl (lv_at hl 2 rfl) ?_
        refine lv_aload_n hx hb dL_isDecided_72 rfl (lv_at hl 3 rfl) ?_
        refine lv_iload hx hb dL_isDecided_73 (lv_at hl 6 rfl) ?_
        refine gcvT (X := ([] : va_W)) (va_runS (As := [.ref (Ad 1), .ref (Ad 5), .int (nI j)]) (rest := []) ⟨hx, hb, hml, hown, hts⟩ (kL_sees_z l hl0 G T Ad AF D mny (updA N j (sThaw (N j) 0 (D 3))) (updA f j (sThawF (N j) (f j))) g rk rf rg rh ta ca fa ga j _ (by omega)) (va_cwS 3 hts gL_isDecided_L_sees rfl rfl rfl (by decide +kernel) ⟨Nat.le_of_ble_eq_true rfl, Nat.le_of_ble_eq_true rfl⟩) ⟨gblind, gpreT (X := ([] : va_W)) hE hK hP hD hS hA⟩ rfl rfl hl.1 rfl (lv_room (Nat.le_of_ble_eq_true rfl)) dL_isDecided_75 ⟨Nat.le_of_ble_eq_true rfl, Nat.le_of_ble_eq_true rfl⟩) hP hD hS hA wW_fst (fun H locs hw hP hD hS => ?_)
        have hP : va_P G vwCl (wW T Ad AF (upd (upd (upd ta j ((updA N j (sThaw (N j) 0 (D 3))) j 0)) (16 + j) ((updA N j (sThaw (N j) 0 (D 3))) j 1)) (32 + j) (sDay ((updA N j (sThaw (N j) 0 (D 3))) j))) ca fa ga D mny (updA N j (sThaw (N j) 0 (D 3))) (updA f j (sThawF (N j) (f j))) g rk rf rg rh) H := hP
        have hD : va_D (va_A (wW T Ad AF ta ca fa ga D mny N f g rk rf rg rh) s.heap.size) (wW T Ad AF (upd (upd (upd ta j ((updA N j (sThaw (N j) 0 (D 3))) j 0)) (16 + j) ((updA N j (sThaw (N j) 0 (D 3))) j 1)) (32 + j) (sDay ((updA N j (sThaw (N j) 0 (D 3))) j))) ca fa ga D mny (updA N j (sThaw (N j) 0 (D 3))) (updA f j (sThawF (N j) (f j))) g rk rf rg rh) := hD
        refine lv_aload_n hx hb dL_isDecided_78 rfl (lv_at hl 4 rfl) ?_
        refine lv_bipush (v := 32) hx hb dL_isDecided_79 (by decide) ?_
        refine lv_iload hx hb dL_isDecided_81 (lv_at hl 6 rfl) ?_
        refine lv_iadd hx hb dL_isDecided_83 ?_
        refine gtop (y := nI (32 + j)) (nI_add 32 j) ?_
        refine giald (j := (32 + j)) hx hb hK hP 1 0 rfl rfl (show (nI (32 + j) : Int32) = nI (32 + j) from rfl) (by omega) (by decide) dL_isDecided_84 ?_
        refine gtop (y := 1) (hc32.trans (if_pos h6)) ?_
        refine lv_iconst (v := 1) hx hb dL_isDecided_85 (by decide) ?_
        refine lv_icmp_ne (tgt := 161) hx hb dL_isDecided_86 (by decide) (fun c86 => ?_) (fun c86 => ?_)
        · exact absurd c86 (by decide)
        · skip
          refine lv_aload_n hx hb dL_isDecided_89 rfl (lv_at hl 4 rfl) ?_
          refine lv_bipush (v := 32) hx hb dL_isDecided_90 (by decide) ?_
          refine lv_iload hx hb dL_isDecided_92 (lv_at hl 6 rfl) ?_
          refine lv_iadd hx hb dL_isDecided_94 ?_
          refine gtop (y := nI (32 + j)) (nI_add 32 j) ?_
          refine lv_iconst (v := 0) hx hb dL_isDecided_95 (by decide) ?_
          refine giast (j := (32 + j)) hx hb hK hP hD hS 1 0 rfl rfl (show (nI (32 + j) : Int32) = nI (32 + j) from rfl) (by omega) (by decide) dL_isDecided_96 (fun H locs hP hD hS => ?_)
          have hP : va_P G vwCl (wW T Ad AF (upd (upd (upd ta j ((updA N j (sThaw (N j) 0 (D 3))) j 0)) (16 + j) ((updA N j (sThaw (N j) 0 (D 3))) j 1)) (32 + j) (sDay ((updA N j (sThaw (N j) 0 (D 3))) j))) (upd ca (32 + j) 0) fa ga D mny (updA N j (sThaw (N j) 0 (D 3))) (updA f j (sThawF (N j) (f j))) g rk rf rg rh) H := hP
          have hD : va_D (va_A (wW T Ad AF ta ca fa ga D mny N f g rk rf rg rh) s.heap.size) (wW T Ad AF (upd (upd (upd ta j ((updA N j (sThaw (N j) 0 (D 3))) j 0)) (16 + j) ((updA N j (sThaw (N j) 0 (D 3))) j 1)) (32 + j) (sDay ((updA N j (sThaw (N j) 0 (D 3))) j))) (upd ca (32 + j) 0) fa ga D mny (updA N j (sThaw (N j) 0 (D 3))) (updA f j (sThawF (N j) (f j))) g rk rf rg rh) := hD
          refine lv_aload_n hx hb dL_isDecided_97 rfl (lv_at hl 4 rfl) ?_
          refine lv_iload hx hb dL_isDecided_98 (lv_at hl 6 rfl) ?_
          refine lv_iconst (v := 0) hx hb dL_isDecided_100 (by decide) ?_
          refine giast (j := j) hx hb hK hP hD hS 1 0 rfl rfl (show (nI j : Int32) = nI j from rfl) (by omega) (by decide) dL_isDecided_101 (fun H locs hP hD hS => ?_)
          have hP : va_P G vwCl (wW T Ad AF (upd (upd (upd ta j ((updA N j (sThaw (N j) 0 (D 3))) j 0)) (16 + j) ((updA N j (sThaw (N j) 0 (D 3))) j 1)) (32 + j) (sDay ((updA N j (sThaw (N j) 0 (D 3))) j))) (upd (upd ca (32 + j) 0) j 0) fa ga D mny (updA N j (sThaw (N j) 0 (D 3))) (updA f j (sThawF (N j) (f j))) g rk rf rg rh) H := hP
          have hD : va_D (va_A (wW T Ad AF ta ca fa ga D mny N f g rk rf rg rh) s.heap.size) (wW T Ad AF (upd (upd (upd ta j ((updA N j (sThaw (N j) 0 (D 3))) j 0)) (16 + j) ((updA N j (sThaw (N j) 0 (D 3))) j 1)) (32 + j) (sDay ((updA N j (sThaw (N j) 0 (D 3))) j))) (upd (upd ca (32 + j) 0) j 0) fa ga D mny (updA N j (sThaw (N j) 0 (D 3))) (updA f j (sThawF (N j) (f j))) g rk rf rg rh) := hD
          refine lv_aload_n hx hb dL_isDecided_102 rfl (lv_at hl 4 rfl) ?_
          refine lv_bipush (v := 16) hx hb dL_isDecided_103 (by decide) ?_
          refine lv_iload hx hb dL_isDecided_105 (lv_at hl 6 rfl) ?_
          refine lv_iadd hx hb dL_isDecided_107 ?_
          refine gtop (y := nI (16 + j)) (nI_add 16 j) ?_
          refine lv_bipush (v := 10) hx hb dL_isDecided_108 (by decide) ?_
          refine giast (j := (16 + j)) hx hb hK hP hD hS 1 0 rfl rfl (show (nI (16 + j) : Int32) = nI (16 + j) from rfl) (by omega) (by decide) dL_isDecided_110 (fun H locs hP hD hS => ?_)
          have hP : va_P G vwCl (wW T Ad AF (upd (upd (upd ta j ((updA N j (sThaw (N j) 0 (D 3))) j 0)) (16 + j) ((updA N j (sThaw (N j) 0 (D 3))) j 1)) (32 + j) (sDay ((updA N j (sThaw (N j) 0 (D 3))) j))) (upd (upd (upd ca (32 + j) 0) j 0) (16 + j) 10) fa ga D mny (updA N j (sThaw (N j) 0 (D 3))) (updA f j (sThawF (N j) (f j))) g rk rf rg rh) H := hP
          have hD : va_D (va_A (wW T Ad AF ta ca fa ga D mny N f g rk rf rg rh) s.heap.size) (wW T Ad AF (upd (upd (upd ta j ((updA N j (sThaw (N j) 0 (D 3))) j 0)) (16 + j) ((updA N j (sThaw (N j) 0 (D 3))) j 1)) (32 + j) (sDay ((updA N j (sThaw (N j) 0 (D 3))) j))) (upd (upd (upd ca (32 + j) 0) j 0) (16 + j) 10) fa ga D mny (updA N j (sThaw (N j) 0 (D 3))) (updA f j (sThawF (N j) (f j))) g rk rf rg rh) := hD
          refine lv_iload hx hb dL_isDecided_111 (lv_at hl 0 rfl) ?_
          refine lv_iconst (v := 2) hx hb dL_isDecided_113 (by decide) ?_
          refine lv_iload hx hb dL_isDecided_114 (lv_at hl 7 rfl) ?_
          refine lv_imul hx hb dL_isDecided_116 ?_
          refine gtop (y := 0) (by decide) ?_
          refine lv_icmp_ne (tgt := 159) hx hb dL_isDecided_117 (by decide) (fun c117 => ?_) (fun c117 => ?_)
          · exact absurd c117 (by decide)
          · skip
            refine lv_aload_n hx hb dL_isDecided_120 rfl (lv_at hl 3 rfl) ?_
            refine lv_iload hx hb dL_isDecided_121 (lv_at hl 6 rfl) ?_
            refine giald (j := j) hx hb hK hP 0 0 rfl rfl (show (nI j : Int32) = nI j from rfl) (by omega) (by decide) dL_isDecided_123 ?_
            refine gtop (y := 0) (by rw [upd_no (by omega), upd_no (by omega), upd_at]; rw [updA_at, sThaw, if_pos h6, if_pos rfl]; rfl) ?_
            refine lv_iload hx hb dL_isDecided_124 (lv_at hl 0 rfl) ?_
            refine lv_icmp_ne (tgt := 159) hx hb dL_isDecided_126 (by decide) (fun c126 => ?_) (fun c126 => ?_)
            · exact absurd c126 (by decide)
            · skip
              refine lv_aload_n hx hb dL_isDecided_129 rfl (lv_at hl 3 rfl) ?_
              refine lv_bipush (v := 32) hx hb dL_isDecided_130 (by decide) ?_
              refine lv_iload hx hb dL_isDecided_132 (lv_at hl 6 rfl) ?_
              refine lv_iadd hx hb dL_isDecided_134 ?_
              refine gtop (y := nI (32 + j)) (nI_add 32 j) ?_
              refine giald (j := (32 + j)) hx hb hK hP 0 0 rfl rfl (show (nI (32 + j) : Int32) = nI (32 + j) from rfl) (by omega) (by decide) dL_isDecided_135 ?_
              refine gtop (y := (-1)) (by rw [upd_at, updA_at, sThaw, if_pos h6, if_pos rfl]; exact sDay_0 rfl) ?_
              refine lv_iload hx hb dL_isDecided_136 (lv_at hl 7 rfl) ?_
              refine lv_iconst (v := 1) hx hb dL_isDecided_138 (by decide) ?_
              refine lv_icmp_ne (tgt := 151) hx hb dL_isDecided_139 (by decide) (fun c139 => ?_) (fun c139 => ?_)
              · skip
                refine lv_iconst (v := (-1)) hx hb dL_isDecided_151 (by decide) ?_
                refine lv_icmp_ne (tgt := 159) hx hb dL_isDecided_152 (by decide) (fun c152 => ?_) (fun c152 => ?_)
                · exact absurd c152 (by decide)
                · skip
                  refine lv_iconst (v := 1) hx hb dL_isDecided_155 (by decide) ?_
                  refine lv_goto (tgt := 160) hx hb dL_isDecided_156 (by decide) ?_
                  refine W.widen (k := 5) (n := 30) (Nat.le_of_ble_eq_true rfl) (Nat.le_of_ble_eq_true rfl) ?_
                  have hI9 : INV d a D mny (updA N j (sThaw (N j) 0 (D 3))) (updA f j (sThawF (N j) (f j))) rk rf rg rh (upd (upd (upd ta j ((updA N j (sThaw (N j) 0 (D 3))) j 0)) (16 + j) ((updA N j (sThaw (N j) 0 (D 3))) j 1)) (32 + j) (sDay ((updA N j (sThaw (N j) 0 (D 3))) j))) (upd (upd (upd ca (32 + j) 0) j 0) (16 + j) 10) fa ga := INV.decideA hI hj16 h6 hz9 hq6 h7 rfl rfl
                  exact W.zret (v := 1) hx hb hr (by decide) (fun w9 ht9 hW => ⟨⟨1, (D, mny, (updA N j (sThaw (N j) 0 (D 3))), (updA f j (sThawF (N j) (f j))), g, rk, rf, rg, rh, (upd (upd (upd ta j ((updA N j (sThaw (N j) 0 (D 3))) j 0)) (16 + j) ((updA N j (sThaw (N j) 0 (D 3))) j 1)) (32 + j) (sDay ((updA N j (sThaw (N j) 0 (D 3))) j))), (upd (upd (upd ca (32 + j) 0) j 0) (16 + j) 10), fa, ga), rfl, ⟨rfl, hI9⟩, gBi ht9 (gfin hP (rfl))⟩, hS.F ht9⟩) hS.2.2 dL_isDecided_160
              · exact absurd c139 (by decide)
      · skip
        have h61 : ¬ N j 6 = 1 := c0_of s2 s3 h6
        rcases (show sF = 2 ∨ sF = 3 by omega) with hs9 | hs9
        · skip
          subst hs9
          refine lv_aload_n hx hb dL_isDecided_49 rfl (lv_at hl 1 rfl) ?_
          refine lv_bipush (v := 16) hx hb dL_isDecided_50 (by decide) ?_
          refine lv_iload hx hb dL_isDecided_52 (lv_at hl 4 rfl) ?_
          refine lv_iadd hx hb dL_isDecided_54 ?_
          refine gtop (y := nI (16 + j)) (nI_add 16 j) ?_
          refine giald (j := (16 + j)) hx hb hK hP 0 0 rfl rfl (show (nI (16 + j) : Int32) = nI (16 + j) from rfl) (by omega) (by decide) dL_isDecided_55 ?_
          refine gtop (y := nI o) (n2.2.1.trans h1) ?_
          refine lv_istore (lv' := [(6, .int (nI o)), (0, .ref (Ad 1)), (1, .ref (Ad 5)), (2, .ref (Ad 6)), (3, .ref (Ad 8)), (4, .int (nI j)), (5, .int 0)]) hx hb dL_isDecided_56 hl (by decide) rfl (fun ls hl => ?_)
          refine lv_aload_n hx hb dL_isDecided_58 rfl (lv_at hl 1 rfl) ?_
          refine lv_bipush (v := 6) hx hb dL_isDecided_59 (by decide) ?_
          refine lv_iload hx hb dL_isDecided_61 (lv_at hl 5 rfl) ?_
          refine lv_iload hx hb dL_isDecided_63 (lv_at hl 6 rfl) ?_
          refine lv_iconst (v := 0) hx hb dL_isDecided_65 (by decide) ?_
          refine gciT (X := wX4 T Ad ta ca fa ga) (vx_runSW (As := [.ref (Ad 1), .int 6, .int (nI j), .int 0, .int 0]) (rest := []) ⟨hx, hb, hml, hown, hts⟩ (cL_does_6_okc l hl0 G T Ad AF D mny N f g rk rf rg rh j 0 0 _ (by omega) (by decide) (by rw [kDecide_n (by omega), if_pos hj16, if_pos c12])) (vx_cwSW 5 hts gL_isDecided_L_does rfl rfl rfl (by decide +kernel) ⟨Nat.le_of_ble_eq_true rfl, Nat.le_of_ble_eq_true rfl⟩) ⟨gblind, gpreT (X := wX4 T Ad ta ca fa ga) hE hK hP hD hS hA⟩ rfl rfl hl.1 rfl (lv_room (Nat.le_of_ble_eq_true rfl)) dL_isDecided_66 ⟨Nat.le_of_ble_eq_true rfl, Nat.le_of_ble_eq_true rfl⟩) hP hD hS hA wC_fst (fun r9 H locs hw hP hD hS => ?_)
          have hP : va_P G vwCl (wW T Ad AF ta ca fa ga D mny (updA N j (sThaw (N j) 0 (D 3))) (updA f j (sThawF (N j) (f j))) g rk rf rg rh) H := hP
          have hD : va_D (va_A (wW T Ad AF ta ca fa ga D mny N f g rk rf rg rh) s.heap.size) (wW T Ad AF ta ca fa ga D mny (updA N j (sThaw (N j) 0 (D 3))) (updA f j (sThawF (N j) (f j))) g rk rf rg rh) := hD
          subst hw
          refine gtop (y := 2) (by rw [sThaw, if_neg h61]; exact h6) ?_
          refine lv_istore (lv' := [(7, .int 2), (6, .int (nI o)), (0, .ref (Ad 1)), (1, .ref (Ad 5)), (2, .ref (Ad 6)), (3, .ref (Ad 8)), (4, .int (nI j)), (5, .int 0)]) hx hb dL_isDecided_69 hl (by decide) rfl (fun ls hl => ?_)
          refine lv_aload_n hx hb dL_isDecided_71 rfl (lv_at hl 2 rfl) ?_
          refine lv_aload_n hx hb dL_isDecided_72 rfl (lv_at hl 3 rfl) ?_
          refine lv_iload hx hb dL_isDecided_73 (lv_at hl 6 rfl) ?_
          refine gcvT (X := ([] : va_W)) (va_runS (As := [.ref (Ad 1), .ref (Ad 5), .int (nI j)]) (rest := []) ⟨hx, hb, hml, hown, hts⟩ (kL_sees_z l hl0 G T Ad AF D mny (updA N j (sThaw (N j) 0 (D 3))) (updA f j (sThawF (N j) (f j))) g rk rf rg rh ta ca fa ga j _ (by omega)) (va_cwS 3 hts gL_isDecided_L_sees rfl rfl rfl (by decide +kernel) ⟨Nat.le_of_ble_eq_true rfl, Nat.le_of_ble_eq_true rfl⟩) ⟨gblind, gpreT (X := ([] : va_W)) hE hK hP hD hS hA⟩ rfl rfl hl.1 rfl (lv_room (Nat.le_of_ble_eq_true rfl)) dL_isDecided_75 ⟨Nat.le_of_ble_eq_true rfl, Nat.le_of_ble_eq_true rfl⟩) hP hD hS hA wW_fst (fun H locs hw hP hD hS => ?_)
          have hP : va_P G vwCl (wW T Ad AF (upd (upd (upd ta j ((updA N j (sThaw (N j) 0 (D 3))) j 0)) (16 + j) ((updA N j (sThaw (N j) 0 (D 3))) j 1)) (32 + j) (sDay ((updA N j (sThaw (N j) 0 (D 3))) j))) ca fa ga D mny (updA N j (sThaw (N j) 0 (D 3))) (updA f j (sThawF (N j) (f j))) g rk rf rg rh) H := hP
          have hD : va_D (va_A (wW T Ad AF ta ca fa ga D mny N f g rk rf rg rh) s.heap.size) (wW T Ad AF (upd (upd (upd ta j ((updA N j (sThaw (N j) 0 (D 3))) j 0)) (16 + j) ((updA N j (sThaw (N j) 0 (D 3))) j 1)) (32 + j) (sDay ((updA N j (sThaw (N j) 0 (D 3))) j))) ca fa ga D mny (updA N j (sThaw (N j) 0 (D 3))) (updA f j (sThawF (N j) (f j))) g rk rf rg rh) := hD
          refine lv_aload_n hx hb dL_isDecided_78 rfl (lv_at hl 4 rfl) ?_
          refine lv_bipush (v := 32) hx hb dL_isDecided_79 (by decide) ?_
          refine lv_iload hx hb dL_isDecided_81 (lv_at hl 6 rfl) ?_
          refine lv_iadd hx hb dL_isDecided_83 ?_
          refine gtop (y := nI (32 + j)) (nI_add 32 j) ?_
          refine giald (j := (32 + j)) hx hb hK hP 1 0 rfl rfl (show (nI (32 + j) : Int32) = nI (32 + j) from rfl) (by omega) (by decide) dL_isDecided_84 ?_
          refine gtop (y := 0) (hc32.trans (if_neg h61)) ?_
          refine lv_iconst (v := 1) hx hb dL_isDecided_85 (by decide) ?_
          refine lv_icmp_ne (tgt := 161) hx hb dL_isDecided_86 (by decide) (fun c86 => ?_) (fun c86 => ?_)
          · skip
            refine lv_iload hx hb dL_isDecided_161 (lv_at hl 0 rfl) ?_
            refine lv_iconst (v := 2) hx hb dL_isDecided_163 (by decide) ?_
            refine lv_icmp_eq (tgt := 173) hx hb dL_isDecided_164 (by decide) (fun c164 => ?_) (fun c164 => ?_)
            · skip
              refine lv_aload_n hx hb dL_isDecided_173 rfl (lv_at hl 3 rfl) ?_
              refine lv_iload hx hb dL_isDecided_174 (lv_at hl 6 rfl) ?_
              refine giald (j := j) hx hb hK hP 0 0 rfl rfl (show (nI j : Int32) = nI j from rfl) (by omega) (by decide) dL_isDecided_176 ?_
              refine gtop (y := 2) (by rw [upd_no (by omega), upd_no (by omega), upd_at]; rw [updA_at, sThaw, if_neg h61]; exact h6) ?_
              refine lv_iload hx hb dL_isDecided_177 (lv_at hl 0 rfl) ?_
              refine lv_icmp_ne (tgt := 219) hx hb dL_isDecided_179 (by decide) (fun c179 => ?_) (fun c179 => ?_)
              · exact absurd c179 (by decide)
              · skip
                refine lv_iload hx hb dL_isDecided_182 (lv_at hl 7 rfl) ?_
                refine lv_iconst (v := 1) hx hb dL_isDecided_184 (by decide) ?_
                refine lv_icmp_ne (tgt := 203) hx hb dL_isDecided_185 (by decide) (fun c185 => ?_) (fun c185 => ?_)
                · skip
                  refine lv_aload_n hx hb dL_isDecided_203 rfl (lv_at hl 3 rfl) ?_
                  refine lv_bipush (v := 16) hx hb dL_isDecided_204 (by decide) ?_
                  refine lv_iload hx hb dL_isDecided_206 (lv_at hl 6 rfl) ?_
                  refine lv_iadd hx hb dL_isDecided_208 ?_
                  refine gtop (y := nI (16 + j)) (nI_add 16 j) ?_
                  refine giald (j := (16 + j)) hx hb hK hP 0 0 rfl rfl (show (nI (16 + j) : Int32) = nI (16 + j) from rfl) (by omega) (by decide) dL_isDecided_209 ?_
                  refine gtop (y := nI o) (by rw [upd_no (by omega), upd_at, updA_at, sThaw, if_neg h61, if_pos rfl]; exact h1) ?_
                  refine lv_iload hx hb dL_isDecided_210 (lv_at hl 1 rfl) ?_
                  refine lv_icmp_ne (tgt := 219) hx hb dL_isDecided_212 (by decide) (fun c212 => ?_) (fun c212 => ?_)
                  · exact absurd rfl c212
                  · skip
                    refine lv_iconst (v := 1) hx hb dL_isDecided_215 (by decide) ?_
                    refine lv_goto (tgt := 220) hx hb dL_isDecided_216 (by decide) ?_
                    refine W.widen (k := 5) (n := 30) (Nat.le_of_ble_eq_true rfl) (Nat.le_of_ble_eq_true rfl) ?_
                    have hI9 : INV d a D mny (updA N j (sThaw (N j) 0 (D 3))) (updA f j (sThawF (N j) (f j))) rk rf rg rh (upd (upd (upd ta j ((updA N j (sThaw (N j) 0 (D 3))) j 0)) (16 + j) ((updA N j (sThaw (N j) 0 (D 3))) j 1)) (32 + j) (sDay ((updA N j (sThaw (N j) 0 (D 3))) j))) ca fa ga := INV.decideF hI hj16 c12 hz9 (by omega) (by omega) ho6 hq6 hzd he1 he2 hd h6 h1 h7 h8 h3 rfl rfl
                    exact W.zret (v := 1) hx hb hr (by decide) (fun w9 ht9 hW => ⟨⟨1, (D, mny, (updA N j (sThaw (N j) 0 (D 3))), (updA f j (sThawF (N j) (f j))), g, rk, rf, rg, rh, (upd (upd (upd ta j ((updA N j (sThaw (N j) 0 (D 3))) j 0)) (16 + j) ((updA N j (sThaw (N j) 0 (D 3))) j 1)) (32 + j) (sDay ((updA N j (sThaw (N j) 0 (D 3))) j))), ca, fa, ga), rfl, ⟨rfl, hI9⟩, gBi ht9 (gfin hP (rfl))⟩, hS.F ht9⟩) hS.2.2 dL_isDecided_220
                · exact absurd c185 (by decide)
            · exact absurd c164 (by decide)
          · exact absurd c86 (by decide)
        · skip
          subst hs9
          refine lv_aload_n hx hb dL_isDecided_49 rfl (lv_at hl 1 rfl) ?_
          refine lv_bipush (v := 16) hx hb dL_isDecided_50 (by decide) ?_
          refine lv_iload hx hb dL_isDecided_52 (lv_at hl 4 rfl) ?_
          refine lv_iadd hx hb dL_isDecided_54 ?_
          refine gtop (y := nI (16 + j)) (nI_add 16 j) ?_
          refine giald (j := (16 + j)) hx hb hK hP 0 0 rfl rfl (show (nI (16 + j) : Int32) = nI (16 + j) from rfl) (by omega) (by decide) dL_isDecided_55 ?_
          refine gtop (y := nI o) (n2.2.1.trans h1) ?_
          refine lv_istore (lv' := [(6, .int (nI o)), (0, .ref (Ad 1)), (1, .ref (Ad 5)), (2, .ref (Ad 6)), (3, .ref (Ad 8)), (4, .int (nI j)), (5, .int 0)]) hx hb dL_isDecided_56 hl (by decide) rfl (fun ls hl => ?_)
          refine lv_aload_n hx hb dL_isDecided_58 rfl (lv_at hl 1 rfl) ?_
          refine lv_bipush (v := 6) hx hb dL_isDecided_59 (by decide) ?_
          refine lv_iload hx hb dL_isDecided_61 (lv_at hl 5 rfl) ?_
          refine lv_iload hx hb dL_isDecided_63 (lv_at hl 6 rfl) ?_
          refine lv_iconst (v := 0) hx hb dL_isDecided_65 (by decide) ?_
          refine gciT (X := wX4 T Ad ta ca fa ga) (vx_runSW (As := [.ref (Ad 1), .int 6, .int (nI j), .int 0, .int 0]) (rest := []) ⟨hx, hb, hml, hown, hts⟩ (cL_does_6_okc l hl0 G T Ad AF D mny N f g rk rf rg rh j 0 0 _ (by omega) (by decide) (by rw [kDecide_n (by omega), if_pos hj16, if_pos c12])) (vx_cwSW 5 hts gL_isDecided_L_does rfl rfl rfl (by decide +kernel) ⟨Nat.le_of_ble_eq_true rfl, Nat.le_of_ble_eq_true rfl⟩) ⟨gblind, gpreT (X := wX4 T Ad ta ca fa ga) hE hK hP hD hS hA⟩ rfl rfl hl.1 rfl (lv_room (Nat.le_of_ble_eq_true rfl)) dL_isDecided_66 ⟨Nat.le_of_ble_eq_true rfl, Nat.le_of_ble_eq_true rfl⟩) hP hD hS hA wC_fst (fun r9 H locs hw hP hD hS => ?_)
          have hP : va_P G vwCl (wW T Ad AF ta ca fa ga D mny (updA N j (sThaw (N j) 0 (D 3))) (updA f j (sThawF (N j) (f j))) g rk rf rg rh) H := hP
          have hD : va_D (va_A (wW T Ad AF ta ca fa ga D mny N f g rk rf rg rh) s.heap.size) (wW T Ad AF ta ca fa ga D mny (updA N j (sThaw (N j) 0 (D 3))) (updA f j (sThawF (N j) (f j))) g rk rf rg rh) := hD
          subst hw
          refine gtop (y := 3) (by rw [sThaw, if_neg h61]; exact h6) ?_
          refine lv_istore (lv' := [(7, .int 3), (6, .int (nI o)), (0, .ref (Ad 1)), (1, .ref (Ad 5)), (2, .ref (Ad 6)), (3, .ref (Ad 8)), (4, .int (nI j)), (5, .int 0)]) hx hb dL_isDecided_69 hl (by decide) rfl (fun ls hl => ?_)
          refine lv_aload_n hx hb dL_isDecided_71 rfl (lv_at hl 2 rfl) ?_
          refine lv_aload_n hx hb dL_isDecided_72 rfl (lv_at hl 3 rfl) ?_
          refine lv_iload hx hb dL_isDecided_73 (lv_at hl 6 rfl) ?_
          refine gcvT (X := ([] : va_W)) (va_runS (As := [.ref (Ad 1), .ref (Ad 5), .int (nI j)]) (rest := []) ⟨hx, hb, hml, hown, hts⟩ (kL_sees_z l hl0 G T Ad AF D mny (updA N j (sThaw (N j) 0 (D 3))) (updA f j (sThawF (N j) (f j))) g rk rf rg rh ta ca fa ga j _ (by omega)) (va_cwS 3 hts gL_isDecided_L_sees rfl rfl rfl (by decide +kernel) ⟨Nat.le_of_ble_eq_true rfl, Nat.le_of_ble_eq_true rfl⟩) ⟨gblind, gpreT (X := ([] : va_W)) hE hK hP hD hS hA⟩ rfl rfl hl.1 rfl (lv_room (Nat.le_of_ble_eq_true rfl)) dL_isDecided_75 ⟨Nat.le_of_ble_eq_true rfl, Nat.le_of_ble_eq_true rfl⟩) hP hD hS hA wW_fst (fun H locs hw hP hD hS => ?_)
          have hP : va_P G vwCl (wW T Ad AF (upd (upd (upd ta j ((updA N j (sThaw (N j) 0 (D 3))) j 0)) (16 + j) ((updA N j (sThaw (N j) 0 (D 3))) j 1)) (32 + j) (sDay ((updA N j (sThaw (N j) 0 (D 3))) j))) ca fa ga D mny (updA N j (sThaw (N j) 0 (D 3))) (updA f j (sThawF (N j) (f j))) g rk rf rg rh) H := hP
          have hD : va_D (va_A (wW T Ad AF ta ca fa ga D mny N f g rk rf rg rh) s.heap.size) (wW T Ad AF (upd (upd (upd ta j ((updA N j (sThaw (N j) 0 (D 3))) j 0)) (16 + j) ((updA N j (sThaw (N j) 0 (D 3))) j 1)) (32 + j) (sDay ((updA N j (sThaw (N j) 0 (D 3))) j))) ca fa ga D mny (updA N j (sThaw (N j) 0 (D 3))) (updA f j (sThawF (N j) (f j))) g rk rf rg rh) := hD
          refine lv_aload_n hx hb dL_isDecided_78 rfl (lv_at hl 4 rfl) ?_
          refine lv_bipush (v := 32) hx hb dL_isDecided_79 (by decide) ?_
          refine lv_iload hx hb dL_isDecided_81 (lv_at hl 6 rfl) ?_
          refine lv_iadd hx hb dL_isDecided_83 ?_
          refine gtop (y := nI (32 + j)) (nI_add 32 j) ?_
          refine giald (j := (32 + j)) hx hb hK hP 1 0 rfl rfl (show (nI (32 + j) : Int32) = nI (32 + j) from rfl) (by omega) (by decide) dL_isDecided_84 ?_
          refine gtop (y := 0) (hc32.trans (if_neg h61)) ?_
          refine lv_iconst (v := 1) hx hb dL_isDecided_85 (by decide) ?_
          refine lv_icmp_ne (tgt := 161) hx hb dL_isDecided_86 (by decide) (fun c86 => ?_) (fun c86 => ?_)
          · skip
            refine lv_iload hx hb dL_isDecided_161 (lv_at hl 0 rfl) ?_
            refine lv_iconst (v := 2) hx hb dL_isDecided_163 (by decide) ?_
            refine lv_icmp_eq (tgt := 173) hx hb dL_isDecided_164 (by decide) (fun c164 => ?_) (fun c164 => ?_)
            · exact absurd c164 (by decide)
            · skip
              refine lv_iload hx hb dL_isDecided_167 (lv_at hl 0 rfl) ?_
              refine lv_iconst (v := 3) hx hb dL_isDecided_169 (by decide) ?_
              refine lv_icmp_ne (tgt := 219) hx hb dL_isDecided_170 (by decide) (fun c170 => ?_) (fun c170 => ?_)
              · exact absurd c170 (by decide)
              · skip
                refine lv_aload_n hx hb dL_isDecided_173 rfl (lv_at hl 3 rfl) ?_
                refine lv_iload hx hb dL_isDecided_174 (lv_at hl 6 rfl) ?_
                refine giald (j := j) hx hb hK hP 0 0 rfl rfl (show (nI j : Int32) = nI j from rfl) (by omega) (by decide) dL_isDecided_176 ?_
                refine gtop (y := 3) (by rw [upd_no (by omega), upd_no (by omega), upd_at]; rw [updA_at, sThaw, if_neg h61]; exact h6) ?_
                refine lv_iload hx hb dL_isDecided_177 (lv_at hl 0 rfl) ?_
                refine lv_icmp_ne (tgt := 219) hx hb dL_isDecided_179 (by decide) (fun c179 => ?_) (fun c179 => ?_)
                · exact absurd c179 (by decide)
                · skip
                  refine lv_iload hx hb dL_isDecided_182 (lv_at hl 7 rfl) ?_
                  refine lv_iconst (v := 1) hx hb dL_isDecided_184 (by decide) ?_
                  refine lv_icmp_ne (tgt := 203) hx hb dL_isDecided_185 (by decide) (fun c185 => ?_) (fun c185 => ?_)
                  · skip
                    refine lv_aload_n hx hb dL_isDecided_203 rfl (lv_at hl 3 rfl) ?_
                    refine lv_bipush (v := 16) hx hb dL_isDecided_204 (by decide) ?_
                    refine lv_iload hx hb dL_isDecided_206 (lv_at hl 6 rfl) ?_
                    refine lv_iadd hx hb dL_isDecided_208 ?_
                    refine gtop (y := nI (16 + j)) (nI_add 16 j) ?_
                    refine giald (j := (16 + j)) hx hb hK hP 0 0 rfl rfl (show (nI (16 + j) : Int32) = nI (16 + j) from rfl) (by omega) (by decide) dL_isDecided_209 ?_
                    refine gtop (y := nI o) (by rw [upd_no (by omega), upd_at, updA_at, sThaw, if_neg h61, if_pos rfl]; exact h1) ?_
                    refine lv_iload hx hb dL_isDecided_210 (lv_at hl 1 rfl) ?_
                    refine lv_icmp_ne (tgt := 219) hx hb dL_isDecided_212 (by decide) (fun c212 => ?_) (fun c212 => ?_)
                    · exact absurd rfl c212
                    · skip
                      refine lv_iconst (v := 1) hx hb dL_isDecided_215 (by decide) ?_
                      refine lv_goto (tgt := 220) hx hb dL_isDecided_216 (by decide) ?_
                      refine W.widen (k := 5) (n := 30) (Nat.le_of_ble_eq_true rfl) (Nat.le_of_ble_eq_true rfl) ?_
                      have hI9 : INV d a D mny (updA N j (sThaw (N j) 0 (D 3))) (updA f j (sThawF (N j) (f j))) rk rf rg rh (upd (upd (upd ta j ((updA N j (sThaw (N j) 0 (D 3))) j 0)) (16 + j) ((updA N j (sThaw (N j) 0 (D 3))) j 1)) (32 + j) (sDay ((updA N j (sThaw (N j) 0 (D 3))) j))) ca fa ga := INV.decideF hI hj16 c12 hz9 (by omega) (by omega) ho6 hq6 hzd he1 he2 hd h6 h1 h7 h8 h3 rfl rfl
                      exact W.zret (v := 1) hx hb hr (by decide) (fun w9 ht9 hW => ⟨⟨1, (D, mny, (updA N j (sThaw (N j) 0 (D 3))), (updA f j (sThawF (N j) (f j))), g, rk, rf, rg, rh, (upd (upd (upd ta j ((updA N j (sThaw (N j) 0 (D 3))) j 0)) (16 + j) ((updA N j (sThaw (N j) 0 (D 3))) j 1)) (32 + j) (sDay ((updA N j (sThaw (N j) 0 (D 3))) j))), ca, fa, ga), rfl, ⟨rfl, hI9⟩, gBi ht9 (gfin hP (rfl))⟩, hS.F ht9⟩) hS.2.2 dL_isDecided_220
                  · exact absurd c185 (by decide)
          · exact absurd c86 (by decide)
    · skip
      refine lv_aload_n hx hb dL_isDecided_15 rfl (lv_at hl 0 rfl) ?_
      refine lv_bipush (v := 6) hx hb dL_isDecided_16 (by decide) ?_
      refine lv_iload hx hb dL_isDecided_18 (lv_at hl 4 rfl) ?_
      refine lv_iload hx hb dL_isDecided_20 (lv_at hl 5 rfl) ?_
      refine lv_iconst (v := 0) hx hb dL_isDecided_22 (by decide) ?_
      refine gciT (X := wX4 T Ad ta ca fa ga) (vx_runSW (As := [.ref (Ad 1), .int 6, .int (nI j), .int 0, .int 0]) (rest := []) ⟨hx, hb, hml, hown, hts⟩ (cL_does_6_noc l hl0 G T Ad AF D mny N f g rk rf rg rh j (nI j) 0 0 _ hj16 (fun _ => ⟨rfl, hj16⟩) (by decide) (fun h9 => absurd (h9.symm.trans (show kDecide (N j) (nI j) = 3 by rw [kDecide_n (by omega), if_pos hj16, if_neg c12])) (by decide))) (vx_cwSW 5 hts gL_isDecided_L_does rfl rfl rfl (by decide +kernel) ⟨Nat.le_of_ble_eq_true rfl, Nat.le_of_ble_eq_true rfl⟩) ⟨gblind, gpreT (X := wX4 T Ad ta ca fa ga) hE hK hP hD hS hA⟩ rfl rfl hl.1 rfl (lv_room (Nat.le_of_ble_eq_true rfl)) dL_isDecided_23 ⟨Nat.le_of_ble_eq_true rfl, Nat.le_of_ble_eq_true rfl⟩) hP hD hS hA wC_fst (fun r9 H locs hw hP hD hS => ?_)
      have hP : va_P G vwCl (wW T Ad AF ta ca fa ga D mny N f g rk rf rg rh) H := hP
      have hD : va_D (va_A (wW T Ad AF ta ca fa ga D mny N f g rk rf rg rh) s.heap.size) (wW T Ad AF ta ca fa ga D mny N f g rk rf rg rh) := hD
      subst hw
      refine gtop (y := (-10)) (wD_10 (show kDecide (N j) (nI j) = 3 by rw [kDecide_n (by omega), if_pos hj16, if_neg c12])) ?_
      refine lv_iload hx hb dL_isDecided_26 (lv_at hl 4 rfl) ?_
      refine lv_bipush (v := 16) hx hb dL_isDecided_28 (by decide) ?_
      refine lv_icmp_ne (tgt := 38) hx hb dL_isDecided_30 (by decide) (fun c30 => ?_) (fun c30 => ?_)
      · skip
        refine lv_bipush (v := (-10)) hx hb dL_isDecided_38 (by decide) ?_
        refine lv_icmp_ne (tgt := 47) hx hb dL_isDecided_40 (by decide) (fun c40 => ?_) (fun c40 => ?_)
        · exact absurd c40 (by decide)
        · skip
          refine lv_iconst (v := 1) hx hb dL_isDecided_43 (by decide) ?_
          refine lv_goto (tgt := 48) hx hb dL_isDecided_44 (by decide) ?_
          refine W.widen (k := 5) (n := 30) (Nat.le_of_ble_eq_true rfl) (Nat.le_of_ble_eq_true rfl) ?_
          exact W.zret (v := 1) hx hb hr (by decide) (fun w9 ht9 hW => ⟨⟨1, (D, mny, N, f, g, rk, rf, rg, rh, ta, ca, fa, ga), rfl, ⟨rfl, hI⟩, gBi ht9 (gfin hP (rfl))⟩, hS.F ht9⟩) hS.2.2 dL_isDecided_48
      · exact absurd c30 c4
abbrev PL_isDecided_1 (G : va_G) (T : Nat → ClassId) (Ad : Nat → Nat) (AF : Nat → Nat → Nat) (D mny : Nat → Int32) (N f g : Nat → Nat → Int32) (rk rf rg rh : Nat → Nat → Int32) (ta ca fa ga : Nat → Int32) (j d a : Nat) (sz : Nat) : Array Value → State → Prop := gPc G T [.ref (Ad 1), .ref (Ad 5), .ref (Ad 6), .ref (Ad 8), .int (nI j), .int 1] (wW T Ad AF ta ca fa ga D mny N f g rk rf rg rh) sz
abbrev QL_isDecided_1 (G : va_G) (T : Nat → ClassId) (Ad : Nat → Nat) (AF : Nat → Nat → Nat) (D mny : Nat → Int32) (N f g : Nat → Nat → Int32) (rk rf rg rh : Nat → Nat → Int32) (ta ca fa ga : Nat → Int32) (j d a : Nat) (sz : Nat) : Array Value → State → Outcome → State → Prop := va_Qi (fun (r : Int32) (u : UL) => r = 1 ∧ INVu d a u) (fun (u : UL) (w9 : State) => va_P G vwCl (wW T Ad AF u.2.2.2.2.2.2.2.2.2.1 u.2.2.2.2.2.2.2.2.2.2.1 u.2.2.2.2.2.2.2.2.2.2.2.1 u.2.2.2.2.2.2.2.2.2.2.2.2 u.1 u.2.1 u.2.2.1 u.2.2.2.1 u.2.2.2.2.1 u.2.2.2.2.2.1 u.2.2.2.2.2.2.1 u.2.2.2.2.2.2.2.1 u.2.2.2.2.2.2.2.2.1) w9.heap) (va_A (wW T Ad AF ta ca fa ga D mny N f g rk rf rg rh) sz)
set_option maxHeartbeats 4000000 in
set_option maxRecDepth 100000 in
theorem kL_isDecided_1 (l : Launch) (hl0 : l.stackTraces = false) (G : va_G) (T : Nat → ClassId) (Ad : Nat → Nat) (AF : Nat → Nat → Nat) (D mny : Nat → Int32) (N f g : Nat → Nat → Int32) (rk rf rg rh : Nat → Nat → Int32) (ta ca fa ga : Nat → Int32) (j d a : Nat) (sz : Nat) (hI : INV d a D mny N f rk rf rg rh ta ca fa ga) (hd : d < 2 ^ 20) (ha : a < 2 ^ 20) (hnj : j < 4 ∨ j = 16) : Met l yL_isDecided wsL_isDecided ({ frames := 9, cells := 5, slots := 30, locals := 150 } : Room) (PL_isDecided_1 G T Ad AF D mny N f g rk rf rg rh ta ca fa ga j d a sz) (QL_isDecided_1 G T Ad AF D mny N f g rk rf rg rh ta ca fa ga j d a sz) 5 30 (va_A (wW T Ad AF ta ca fa ga D mny N f g rk rf rg rh) sz) := by
  refine Met.ofW (cc := cL_isDecided) (maxL := 8) (ret := (some .boolean)) (by decide) rfl ?_
  intro p e s m args below meth c s₁ B hml hv
  obtain ⟨rfl, hsz, hP, hK, hD0, hE⟩ := hv
  have hx := B.exec
  have hb := B.bytes
  have hr := B.returns
  have hts := atoms_spec (ws := wsL_isDecided) B.pre
  have hown : s.vm.findClass RL = some m.cls := findClass_of_methodNamed B.named
  have hlocks := B.notSynchronized
  subst hsz
  have hD := hD0.self (sz := s.heap.size)
  have hA : ∀ q : Nat, s.heap.size ≤ q → (va_A (wW T Ad AF ta ca fa ga D mny N f g rk rf rg rh) s.heap.size) q := fun q h => Or.inr h
  have hS : va_S (va_A (wW T Ad AF ta ca fa ga D mny N f g rk rf rg rh) s.heap.size) s.heap s.heap [] := va_S.rf
  have hl := lv_entry ([.ref (Ad 1), .ref (Ad 5), .ref (Ad 6), .ref (Ad 8), .int (nI j), .int 1]) (n := 8) (Nat.le_of_ble_eq_true rfl)
  rw [lg_entry_eq]
  generalize (lg_sl ([.ref (Ad 1), .ref (Ad 5), .ref (Ad 6), .ref (Ad 8), .int (nI j), .int 1]) ++ List.replicate (8 - (lg_sl ([.ref (Ad 1), .ref (Ad 5), .ref (Ad 6), .ref (Ad 8), .int (nI j), .int 1])).length) Slot.unset).toArray = ls at hl ⊢
  have hl : lv_has ls 8 [(0, .ref (Ad 1)), (1, .ref (Ad 5)), (2, .ref (Ad 6)), (3, .ref (Ad 8)), (4, .int (nI j)), (5, .int 1)] := hl
  obtain ⟨i1, i2, ⟨m9, p9, j1, j2, j3⟩, i4, i5, i6, i7⟩ := id hI
  have hp9 : p9 < 2 ^ 20 := Nat.lt_of_le_of_lt psum_p (by rw [j3]; exact ha)
  have hm9 : ∀ k, k < 6 → m9 k < 2 ^ 20 := fun k hk => by have := psum_le (p := p9) (m := m9) hk; omega
  have hP : va_P G vwCl (wW T Ad AF ta ca fa ga D mny N f g rk rf rg rh) s.heap := hP
  refine lv_iload hx hb dL_isDecided_0 (lv_at hl 4 rfl) ?_
  refine lv_bipush (v := 16) hx hb dL_isDecided_2 (by decide) ?_
  refine lv_icmp_eq (tgt := 15) hx hb dL_isDecided_4 (by decide) (fun c4 => ?_) (fun c4 => ?_)
  · skip
    have hj9 : j = 16 := nI_inj (b := 16) (by omega) (by omega) c4
    refine lv_aload_n hx hb dL_isDecided_15 rfl (lv_at hl 0 rfl) ?_
    refine lv_bipush (v := 6) hx hb dL_isDecided_16 (by decide) ?_
    refine lv_iload hx hb dL_isDecided_18 (lv_at hl 4 rfl) ?_
    refine lv_iload hx hb dL_isDecided_20 (lv_at hl 5 rfl) ?_
    refine lv_iconst (v := 0) hx hb dL_isDecided_22 (by decide) ?_
    refine gciT (X := wX4 T Ad ta ca fa ga) (vx_runSW (As := [.ref (Ad 1), .int 6, .int (nI j), .int 1, .int 0]) (rest := []) ⟨hx, hb, hml, hown, hts⟩ (cL_does_6_noc l hl0 G T Ad AF D mny N f g rk rf rg rh (j % 16) (nI j) 1 0 _ (Nat.mod_lt _ (by decide)) (ix16 (by omega)) (by decide) (fun h9 => absurd (h9.symm.trans (show kDecide (N (j % 16)) (nI j) = 1 by rw [kDecide_n (by omega), if_neg (by omega)])) (by decide))) (vx_cwSW 5 hts gL_isDecided_L_does rfl rfl rfl (by decide +kernel) ⟨Nat.le_of_ble_eq_true rfl, Nat.le_of_ble_eq_true rfl⟩) ⟨gblind, gpreT (X := wX4 T Ad ta ca fa ga) hE hK hP hD hS hA⟩ rfl rfl hl.1 rfl (lv_room (Nat.le_of_ble_eq_true rfl)) dL_isDecided_23 ⟨Nat.le_of_ble_eq_true rfl, Nat.le_of_ble_eq_true rfl⟩) hP hD hS hA wC_fst (fun r9 H locs hw hP hD hS => ?_)
    have hP : va_P G vwCl (wW T Ad AF ta ca fa ga D mny N f g rk rf rg rh) H := hP
    have hD : va_D (va_A (wW T Ad AF ta ca fa ga D mny N f g rk rf rg rh) s.heap.size) (wW T Ad AF ta ca fa ga D mny N f g rk rf rg rh) := hD
    subst hw
    refine gtop (y := (-30)) (wD_30 (show kDecide (N (j % 16)) (nI j) = 1 by rw [kDecide_n (by omega), if_neg (by omega)])) ?_
    refine lv_iload hx hb dL_isDecided_26 (lv_at hl 4 rfl) ?_
    refine lv_bipush (v := 16) hx hb dL_isDecided_28 (by decide) ?_
    refine lv_icmp_ne (tgt := 38) hx hb dL_isDecided_30 (by decide) (fun c30 => ?_) (fun c30 => ?_)
    · exact absurd c4 c30
    · skip
      refine lv_bipush (v := (-30)) hx hb dL_isDecided_33 (by decide) ?_
      refine lv_goto (tgt := 40) hx hb dL_isDecided_35 (by decide) ?_
      refine lv_icmp_ne (tgt := 47) hx hb dL_isDecided_40 (by decide) (fun c40 => ?_) (fun c40 => ?_)
      · exact absurd c40 (by decide)
      · skip
        refine lv_iconst (v := 1) hx hb dL_isDecided_43 (by decide) ?_
        refine lv_goto (tgt := 48) hx hb dL_isDecided_44 (by decide) ?_
        refine W.widen (k := 5) (n := 30) (Nat.le_of_ble_eq_true rfl) (Nat.le_of_ble_eq_true rfl) ?_
        exact W.zret (v := 1) hx hb hr (by decide) (fun w9 ht9 hW => ⟨⟨1, (D, mny, N, f, g, rk, rf, rg, rh, ta, ca, fa, ga), rfl, ⟨rfl, hI⟩, gBi ht9 (gfin hP (rfl))⟩, hS.F ht9⟩) hS.2.2 dL_isDecided_48
  · skip
    have hj16 : j < 16 := by
      rcases hnj with q9 | q9
      · omega
      · exact absurd (congrArg nI q9) c4
    obtain ⟨n1, n2⟩ := i5 j hj16
    refine lv_aload_n hx hb dL_isDecided_7 rfl (lv_at hl 1 rfl) ?_
    refine lv_iload hx hb dL_isDecided_8 (lv_at hl 4 rfl) ?_
    refine giald (j := j) hx hb hK hP 0 0 rfl rfl (show (nI j : Int32) = nI j from rfl) (by omega) (by decide) dL_isDecided_10 ?_
    refine gtop (y := N j 0) n2.1 ?_
    refine lv_iconst (v := 5) hx hb dL_isDecided_11 (by decide) ?_
    refine lv_icmp_eq (tgt := 49) hx hb dL_isDecided_12 (by decide) (fun c12 => ?_) (fun c12 => ?_)
    · skip
      obtain ⟨hz9, hfz⟩ := n1.at5 c12
      have hc32 := n2.2.2.2.2.1 c12
      rcases hfz with ⟨h6, h1, q, hq6, h7⟩ | ⟨sF, eF, o, q, z9, s2, s3, ho6, hq6, hqo, hzd, he1, he2, h6, h1, h7, h8, h3⟩
      · skip
        refine lv_aload_n hx hb dL_isDecided_49 rfl (lv_at hl 1 rfl) ?_
        refine lv_bipush (v := 16) hx hb dL_isDecided_50 (by decide) ?_
        refine lv_iload hx hb dL_isDecided_52 (lv_at hl 4 rfl) ?_
        refine lv_iadd hx hb dL_isDecided_54 ?_
        refine gtop (y := nI (16 + j)) (nI_add 16 j) ?_
        refine giald (j := (16 + j)) hx hb hK hP 0 0 rfl rfl (show (nI (16 + j) : Int32) = nI (16 + j) from rfl) (by omega) (by decide) dL_isDecided_55 ?_
        refine gtop (y := (-1)) (n2.2.1.trans h1) ?_
        refine lv_istore (lv' := [(6, .int (-1)), (0, .ref (Ad 1)), (1, .ref (Ad 5)), (2, .ref (Ad 6)), (3, .ref (Ad 8)), (4, .int (nI j)), (5, .int 1)]) hx hb dL_isDecided_56 hl (by decide) rfl (fun ls hl => ?_)
        refine lv_aload_n hx hb dL_isDecided_58 rfl (lv_at hl 1 rfl) ?_
        refine lv_bipush (v := 6) hx hb dL_isDecided_59 (by decide) ?_
        refine lv_iload hx hb dL_isDecided_61 (lv_at hl 5 rfl) ?_
        refine lv_iload hx hb dL_isDecided_63 (lv_at hl 6 rfl) ?_
        refine lv_iconst (v := 0) hx hb dL_isDecided_65 (by decide) ?_
        refine gciT (X := wX4 T Ad ta ca fa ga) (vx_runSW (As := [.ref (Ad 1), .int 6, .int (nI j), .int 1, .int 0]) (rest := []) ⟨hx, hb, hml, hown, hts⟩ (cL_does_6_okc l hl0 G T Ad AF D mny N f g rk rf rg rh j 1 0 _ (by omega) (by decide) (by rw [kDecide_n (by omega), if_pos hj16, if_pos c12])) (vx_cwSW 5 hts gL_isDecided_L_does rfl rfl rfl (by decide +kernel) ⟨Nat.le_of_ble_eq_true rfl, Nat.le_of_ble_eq_true rfl⟩) ⟨gblind, gpreT (X := wX4 T Ad ta ca fa ga) hE hK hP hD hS hA⟩ rfl rfl hl.1 rfl (lv_room (Nat.le_of_ble_eq_true rfl)) dL_isDecided_66 ⟨Nat.le_of_ble_eq_true rfl, Nat.le_of_ble_eq_true rfl⟩) hP hD hS hA wC_fst (fun r9 H locs hw hP hD hS => ?_)
        have hP : va_P G vwCl (wW T Ad AF ta ca fa ga D mny (updA N j (sThaw (N j) 1 (D 3))) (updA f j (sThawF (N j) (f j))) g rk rf rg rh) H := hP
        have hD : va_D (va_A (wW T Ad AF ta ca fa ga D mny N f g rk rf rg rh) s.heap.size) (wW T Ad AF ta ca fa ga D mny (updA N j (sThaw (N j) 1 (D 3))) (updA f j (sThawF (N j) (f j))) g rk rf rg rh) := hD
        subst hw
        refine gtop (y := 2) (by rw [sThaw, if_pos h6, if_neg (by decide)]; rfl) ?_
        refine lv_istore (lv' := [(7, .int 2), (6, .int (-1)), (0, .ref (Ad 1)), (1, .ref (Ad 5)), (2, .ref (Ad 6)), (3, .ref (Ad 8)), (4, .int (nI j)), (5, .int 1)]) hx hb dL_isDecided_69 hl (by decide) rfl (fun ls hl => ?_)
        refine lv_aload_n hx hb dL_isDecided_71 rfl (lv_at hl 2 rfl) ?_
        refine lv_aload_n hx hb dL_isDecided_72 rfl (lv_at hl 3 rfl) ?_
        refine lv_iload hx hb dL_isDecided_73 (lv_at hl 6 rfl) ?_
        refine gcvT (X := ([] : va_W)) (va_runS (As := [.ref (Ad 1), .ref (Ad 5), .int (nI j)]) (rest := []) ⟨hx, hb, hml, hown, hts⟩ (kL_sees_z l hl0 G T Ad AF D mny (updA N j (sThaw (N j) 1 (D 3))) (updA f j (sThawF (N j) (f j))) g rk rf rg rh ta ca fa ga j _ (by omega)) (va_cwS 3 hts gL_isDecided_L_sees rfl rfl rfl (by decide +kernel) ⟨Nat.le_of_ble_eq_true rfl, Nat.le_of_ble_eq_true rfl⟩) ⟨gblind, gpreT (X := ([] : va_W)) hE hK hP hD hS hA⟩ rfl rfl hl.1 rfl (lv_room (Nat.le_of_ble_eq_true rfl)) dL_isDecided_75 ⟨Nat.le_of_ble_eq_true rfl, Nat.le_of_ble_eq_true rfl⟩) hP hD hS hA wW_fst (fun H locs hw hP hD hS => ?_)
        have hP : va_P G vwCl (wW T Ad AF (upd (upd (upd ta j ((updA N j (sThaw (N j) 1 (D 3))) j 0)) (16 + j) ((updA N j (sThaw (N j) 1 (D 3))) j 1)) (32 + j) (sDay ((updA N j (sThaw (N j) 1 (D 3))) j))) ca fa ga D mny (updA N j (sThaw (N j) 1 (D 3))) (updA f j (sThawF (N j) (f j))) g rk rf rg rh) H := hP
        have hD : va_D (va_A (wW T Ad AF ta ca fa ga D mny N f g rk rf rg rh) s.heap.size) (wW T Ad AF (upd (upd (upd ta j ((updA N j (sThaw (N j) 1 (D 3))) j 0)) (16 + j) ((updA N j (sThaw (N j) 1 (D 3))) j 1)) (32 + j) (sDay ((updA N j (sThaw (N j) 1 (D 3))) j))) ca fa ga D mny (updA N j (sThaw (N j) 1 (D 3))) (updA f j (sThawF (N j) (f j))) g rk rf rg rh) := hD
        refine lv_aload_n hx hb dL_isDecided_78 rfl (lv_at hl 4 rfl) ?_
        refine lv_bipush (v := 32) hx hb dL_isDecided_79 (by decide) ?_
        refine lv_iload hx hb dL_isDecided_81 (lv_at hl 6 rfl) ?_
        refine lv_iadd hx hb dL_isDecided_83 ?_
        refine gtop (y := nI (32 + j)) (nI_add 32 j) ?_
        refine giald (j := (32 + j)) hx hb hK hP 1 0 rfl rfl (show (nI (32 + j) : Int32) = nI (32 + j) from rfl) (by omega) (by decide) dL_isDecided_84 ?_
        refine gtop (y := 1) (hc32.trans (if_pos h6)) ?_
        refine lv_iconst (v := 1) hx hb dL_isDecided_85 (by decide) ?_
        refine lv_icmp_ne (tgt := 161) hx hb dL_isDecided_86 (by decide) (fun c86 => ?_) (fun c86 => ?_)
        · exact absurd c86 (by decide)
        · skip
          refine lv_aload_n hx hb dL_isDecided_89 rfl (lv_at hl 4 rfl) ?_
          refine lv_bipush (v := 32) hx hb dL_isDecided_90 (by decide) ?_
          refine lv_iload hx hb dL_isDecided_92 (lv_at hl 6 rfl) ?_
          refine lv_iadd hx hb dL_isDecided_94 ?_
          refine gtop (y := nI (32 + j)) (nI_add 32 j) ?_
          refine lv_iconst (v := 0) hx hb dL_isDecided_95 (by decide) ?_
          refine giast (j := (32 + j)) hx hb hK hP hD hS 1 0 rfl rfl (show (nI (32 + j) : Int32) = nI (32 + j) from rfl) (by omega) (by decide) dL_isDecided_96 (fun H locs hP hD hS => ?_)
          have hP : va_P G vwCl (wW T Ad AF (upd (upd (upd ta j ((updA N j (sThaw (N j) 1 (D 3))) j 0)) (16 + j) ((updA N j (sThaw (N j) 1 (D 3))) j 1)) (32 + j) (sDay ((updA N j (sThaw (N j) 1 (D 3))) j))) (upd ca (32 + j) 0) fa ga D mny (updA N j (sThaw (N j) 1 (D 3))) (updA f j (sThawF (N j) (f j))) g rk rf rg rh) H := hP
          have hD : va_D (va_A (wW T Ad AF ta ca fa ga D mny N f g rk rf rg rh) s.heap.size) (wW T Ad AF (upd (upd (upd ta j ((updA N j (sThaw (N j) 1 (D 3))) j 0)) (16 + j) ((updA N j (sThaw (N j) 1 (D 3))) j 1)) (32 + j) (sDay ((updA N j (sThaw (N j) 1 (D 3))) j))) (upd ca (32 + j) 0) fa ga D mny (updA N j (sThaw (N j) 1 (D 3))) (updA f j (sThawF (N j) (f j))) g rk rf rg rh) := hD
          refine lv_aload_n hx hb dL_isDecided_97 rfl (lv_at hl 4 rfl) ?_
          refine lv_iload hx hb dL_isDecided_98 (lv_at hl 6 rfl) ?_
          refine lv_iconst (v := 0) hx hb dL_isDecided_100 (by decide) ?_
          refine giast (j := j) hx hb hK hP hD hS 1 0 rfl rfl (show (nI j : Int32) = nI j from rfl) (by omega) (by decide) dL_isDecided_101 (fun H locs hP hD hS => ?_)
          have hP : va_P G vwCl (wW T Ad AF (upd (upd (upd ta j ((updA N j (sThaw (N j) 1 (D 3))) j 0)) (16 + j) ((updA N j (sThaw (N j) 1 (D 3))) j 1)) (32 + j) (sDay ((updA N j (sThaw (N j) 1 (D 3))) j))) (upd (upd ca (32 + j) 0) j 0) fa ga D mny (updA N j (sThaw (N j) 1 (D 3))) (updA f j (sThawF (N j) (f j))) g rk rf rg rh) H := hP
          have hD : va_D (va_A (wW T Ad AF ta ca fa ga D mny N f g rk rf rg rh) s.heap.size) (wW T Ad AF (upd (upd (upd ta j ((updA N j (sThaw (N j) 1 (D 3))) j 0)) (16 + j) ((updA N j (sThaw (N j) 1 (D 3))) j 1)) (32 + j) (sDay ((updA N j (sThaw (N j) 1 (D 3))) j))) (upd (upd ca (32 + j) 0) j 0) fa ga D mny (updA N j (sThaw (N j) 1 (D 3))) (updA f j (sThawF (N j) (f j))) g rk rf rg rh) := hD
          refine lv_aload_n hx hb dL_isDecided_102 rfl (lv_at hl 4 rfl) ?_
          refine lv_bipush (v := 16) hx hb dL_isDecided_103 (by decide) ?_
          refine lv_iload hx hb dL_isDecided_105 (lv_at hl 6 rfl) ?_
          refine lv_iadd hx hb dL_isDecided_107 ?_
          refine gtop (y := nI (16 + j)) (nI_add 16 j) ?_
          refine lv_bipush (v := 10) hx hb dL_isDecided_108 (by decide) ?_
          refine giast (j := (16 + j)) hx hb hK hP hD hS 1 0 rfl rfl (show (nI (16 + j) : Int32) = nI (16 + j) from rfl) (by omega) (by decide) dL_isDecided_110 (fun H locs hP hD hS => ?_)
          have hP : va_P G vwCl (wW T Ad AF (upd (upd (upd ta j ((updA N j (sThaw (N j) 1 (D 3))) j 0)) (16 + j) ((updA N j (sThaw (N j) 1 (D 3))) j 1)) (32 + j) (sDay ((updA N j (sThaw (N j) 1 (D 3))) j))) (upd (upd (upd ca (32 + j) 0) j 0) (16 + j) 10) fa ga D mny (updA N j (sThaw (N j) 1 (D 3))) (updA f j (sThawF (N j) (f j))) g rk rf rg rh) H := hP
          have hD : va_D (va_A (wW T Ad AF ta ca fa ga D mny N f g rk rf rg rh) s.heap.size) (wW T Ad AF (upd (upd (upd ta j ((updA N j (sThaw (N j) 1 (D 3))) j 0)) (16 + j) ((updA N j (sThaw (N j) 1 (D 3))) j 1)) (32 + j) (sDay ((updA N j (sThaw (N j) 1 (D 3))) j))) (upd (upd (upd ca (32 + j) 0) j 0) (16 + j) 10) fa ga D mny (updA N j (sThaw (N j) 1 (D 3))) (updA f j (sThawF (N j) (f j))) g rk rf rg rh) := hD
          refine lv_iload hx hb dL_isDecided_111 (lv_at hl 0 rfl) ?_
          refine lv_iconst (v := 2) hx hb dL_isDecided_113 (by decide) ?_
          refine lv_iload hx hb dL_isDecided_114 (lv_at hl 7 rfl) ?_
          refine lv_imul hx hb dL_isDecided_116 ?_
          refine gtop (y := 2) (by decide) ?_
          refine lv_icmp_ne (tgt := 159) hx hb dL_isDecided_117 (by decide) (fun c117 => ?_) (fun c117 => ?_)
          · exact absurd c117 (by decide)
          · skip
            refine lv_aload_n hx hb dL_isDecided_120 rfl (lv_at hl 3 rfl) ?_
            refine lv_iload hx hb dL_isDecided_121 (lv_at hl 6 rfl) ?_
            refine giald (j := j) hx hb hK hP 0 0 rfl rfl (show (nI j : Int32) = nI j from rfl) (by omega) (by decide) dL_isDecided_123 ?_
            refine gtop (y := 2) (by rw [upd_no (by omega), upd_no (by omega), upd_at]; rw [updA_at, sThaw, if_pos h6, if_neg (by decide)]; rfl) ?_
            refine lv_iload hx hb dL_isDecided_124 (lv_at hl 0 rfl) ?_
            refine lv_icmp_ne (tgt := 159) hx hb dL_isDecided_126 (by decide) (fun c126 => ?_) (fun c126 => ?_)
            · exact absurd c126 (by decide)
            · skip
              refine lv_aload_n hx hb dL_isDecided_129 rfl (lv_at hl 3 rfl) ?_
              refine lv_bipush (v := 32) hx hb dL_isDecided_130 (by decide) ?_
              refine lv_iload hx hb dL_isDecided_132 (lv_at hl 6 rfl) ?_
              refine lv_iadd hx hb dL_isDecided_134 ?_
              refine gtop (y := nI (32 + j)) (nI_add 32 j) ?_
              refine giald (j := (32 + j)) hx hb hK hP 0 0 rfl rfl (show (nI (32 + j) : Int32) = nI (32 + j) from rfl) (by omega) (by decide) dL_isDecided_135 ?_
              refine gtop (y := nI (d + 100)) (by rw [upd_at, updA_at, sThaw, if_pos h6, if_neg (by decide)]; exact (sDay_H (s := 2) (e := d + 100) (by omega) (by omega) rfl ((congrArg (· + (100 : Int32)) i1).trans (nI_add d 100))).trans (congrArg nI (by omega))) ?_
              refine lv_iload hx hb dL_isDecided_136 (lv_at hl 7 rfl) ?_
              refine lv_iconst (v := 1) hx hb dL_isDecided_138 (by decide) ?_
              refine lv_icmp_ne (tgt := 151) hx hb dL_isDecided_139 (by decide) (fun c139 => ?_) (fun c139 => ?_)
              · exact absurd c139 (by decide)
              · skip
                refine lv_aload_n hx hb dL_isDecided_142 rfl (lv_at hl 5 rfl) ?_
                refine lv_iconst (v := 0) hx hb dL_isDecided_143 (by decide) ?_
                refine giald (j := 0) hx hb hK hP 3 0 rfl rfl (show (0 : Int32) = nI 0 from rfl) (by omega) (by decide) dL_isDecided_144 ?_
                refine gtop (y := nI d) i2 ?_
                refine lv_bipush (v := 100) hx hb dL_isDecided_145 (by decide) ?_
                refine lv_iadd hx hb dL_isDecided_147 ?_
                refine gtop (y := nI (d + 100)) (nI_add d 100) ?_
                refine lv_goto (tgt := 152) hx hb dL_isDecided_148 (by decide) ?_
                refine lv_icmp_ne (tgt := 159) hx hb dL_isDecided_152 (by decide) (fun c152 => ?_) (fun c152 => ?_)
                · exact absurd rfl c152
                · skip
                  refine lv_iconst (v := 1) hx hb dL_isDecided_155 (by decide) ?_
                  refine lv_goto (tgt := 160) hx hb dL_isDecided_156 (by decide) ?_
                  refine W.widen (k := 5) (n := 30) (Nat.le_of_ble_eq_true rfl) (Nat.le_of_ble_eq_true rfl) ?_
                  have hI9 : INV d a D mny (updA N j (sThaw (N j) 1 (D 3))) (updA f j (sThawF (N j) (f j))) rk rf rg rh (upd (upd (upd ta j ((updA N j (sThaw (N j) 1 (D 3))) j 0)) (16 + j) ((updA N j (sThaw (N j) 1 (D 3))) j 1)) (32 + j) (sDay ((updA N j (sThaw (N j) 1 (D 3))) j))) (upd (upd (upd ca (32 + j) 0) j 0) (16 + j) 10) fa ga := INV.decideA hI hj16 h6 hz9 hq6 h7 rfl rfl
                  exact W.zret (v := 1) hx hb hr (by decide) (fun w9 ht9 hW => ⟨⟨1, (D, mny, (updA N j (sThaw (N j) 1 (D 3))), (updA f j (sThawF (N j) (f j))), g, rk, rf, rg, rh, (upd (upd (upd ta j ((updA N j (sThaw (N j) 1 (D 3))) j 0)) (16 + j) ((updA N j (sThaw (N j) 1 (D 3))) j 1)) (32 + j) (sDay ((updA N j (sThaw (N j) 1 (D 3))) j))), (upd (upd (upd ca (32 + j) 0) j 0) (16 + j) 10), fa, ga), rfl, ⟨rfl, hI9⟩, gBi ht9 (gfin hP (rfl))⟩, hS.F ht9⟩) hS.2.2 dL_isDecided_160
      · skip
        have h61 : ¬ N j 6 = 1 := c0_of s2 s3 h6
        rcases (show sF = 2 ∨ sF = 3 by omega) with hs9 | hs9
        · skip
          subst hs9
          refine lv_aload_n hx hb dL_isDecided_49 rfl (lv_at hl 1 rfl) ?_
          refine lv_bipush (v := 16) hx hb dL_isDecided_50 (by decide) ?_
          refine lv_iload hx hb dL_isDecided_52 (lv_at hl 4 rfl) ?_
          refine lv_iadd hx hb dL_isDecided_54 ?_
          refine gtop (y := nI (16 + j)) (nI_add 16 j) ?_
          refine giald (j := (16 + j)) hx hb hK hP 0 0 rfl rfl (show (nI (16 + j) : Int32) = nI (16 + j) from rfl) (by omega) (by decide) dL_isDecided_55 ?_
          refine gtop (y := nI o) (n2.2.1.trans h1) ?_
          refine lv_istore (lv' := [(6, .int (nI o)), (0, .ref (Ad 1)), (1, .ref (Ad 5)), (2, .ref (Ad 6)), (3, .ref (Ad 8)), (4, .int (nI j)), (5, .int 1)]) hx hb dL_isDecided_56 hl (by decide) rfl (fun ls hl => ?_)
          refine lv_aload_n hx hb dL_isDecided_58 rfl (lv_at hl 1 rfl) ?_
          refine lv_bipush (v := 6) hx hb dL_isDecided_59 (by decide) ?_
          refine lv_iload hx hb dL_isDecided_61 (lv_at hl 5 rfl) ?_
          refine lv_iload hx hb dL_isDecided_63 (lv_at hl 6 rfl) ?_
          refine lv_iconst (v := 0) hx hb dL_isDecided_65 (by decide) ?_
          refine gciT (X := wX4 T Ad ta ca fa ga) (vx_runSW (As := [.ref (Ad 1), .int 6, .int (nI j), .int 1, .int 0]) (rest := []) ⟨hx, hb, hml, hown, hts⟩ (cL_does_6_okc l hl0 G T Ad AF D mny N f g rk rf rg rh j 1 0 _ (by omega) (by decide) (by rw [kDecide_n (by omega), if_pos hj16, if_pos c12])) (vx_cwSW 5 hts gL_isDecided_L_does rfl rfl rfl (by decide +kernel) ⟨Nat.le_of_ble_eq_true rfl, Nat.le_of_ble_eq_true rfl⟩) ⟨gblind, gpreT (X := wX4 T Ad ta ca fa ga) hE hK hP hD hS hA⟩ rfl rfl hl.1 rfl (lv_room (Nat.le_of_ble_eq_true rfl)) dL_isDecided_66 ⟨Nat.le_of_ble_eq_true rfl, Nat.le_of_ble_eq_true rfl⟩) hP hD hS hA wC_fst (fun r9 H locs hw hP hD hS => ?_)
          have hP : va_P G vwCl (wW T Ad AF ta ca fa ga D mny (updA N j (sThaw (N j) 1 (D 3))) (updA f j (sThawF (N j) (f j))) g rk rf rg rh) H := hP
          have hD : va_D (va_A (wW T Ad AF ta ca fa ga D mny N f g rk rf rg rh) s.heap.size) (wW T Ad AF ta ca fa ga D mny (updA N j (sThaw (N j) 1 (D 3))) (updA f j (sThawF (N j) (f j))) g rk rf rg rh) := hD
          subst hw
          refine gtop (y := 2) (by rw [sThaw, if_neg h61]; exact h6) ?_
          refine lv_istore (lv' := [(7, .int 2), (6, .int (nI o)), (0, .ref (Ad 1)), (1, .ref (Ad 5)), (2, .ref (Ad 6)), (3, .ref (Ad 8)), (4, .int (nI j)), (5, .int 1)]) hx hb dL_isDecided_69 hl (by decide) rfl (fun ls hl => ?_)
          refine lv_aload_n hx hb dL_isDecided_71 rfl (lv_at hl 2 rfl) ?_
          refine lv_aload_n hx hb dL_isDecided_72 rfl (lv_at hl 3 rfl) ?_
          refine lv_iload hx hb dL_isDecided_73 (lv_at hl 6 rfl) ?_
          refine gcvT (X := ([] : va_W)) (va_runS (As := [.ref (Ad 1), .ref (Ad 5), .int (nI j)]) (rest := []) ⟨hx, hb, hml, hown, hts⟩ (kL_sees_z l hl0 G T Ad AF D mny (updA N j (sThaw (N j) 1 (D 3))) (updA f j (sThawF (N j) (f j))) g rk rf rg rh ta ca fa ga j _ (by omega)) (va_cwS 3 hts gL_isDecided_L_sees rfl rfl rfl (by decide +kernel) ⟨Nat.le_of_ble_eq_true rfl, Nat.le_of_ble_eq_true rfl⟩) ⟨gblind, gpreT (X := ([] : va_W)) hE hK hP hD hS hA⟩ rfl rfl hl.1 rfl (lv_room (Nat.le_of_ble_eq_true rfl)) dL_isDecided_75 ⟨Nat.le_of_ble_eq_true rfl, Nat.le_of_ble_eq_true rfl⟩) hP hD hS hA wW_fst (fun H locs hw hP hD hS => ?_)
          have hP : va_P G vwCl (wW T Ad AF (upd (upd (upd ta j ((updA N j (sThaw (N j) 1 (D 3))) j 0)) (16 + j) ((updA N j (sThaw (N j) 1 (D 3))) j 1)) (32 + j) (sDay ((updA N j (sThaw (N j) 1 (D 3))) j))) ca fa ga D mny (updA N j (sThaw (N j) 1 (D 3))) (updA f j (sThawF (N j) (f j))) g rk rf rg rh) H := hP
          have hD : va_D (va_A (wW T Ad AF ta ca fa ga D mny N f g rk rf rg rh) s.heap.size) (wW T Ad AF (upd (upd (upd ta j ((updA N j (sThaw (N j) 1 (D 3))) j 0)) (16 + j) ((updA N j (sThaw (N j) 1 (D 3))) j 1)) (32 + j) (sDay ((updA N j (sThaw (N j) 1 (D 3))) j))) ca fa ga D mny (updA N j (sThaw (N j) 1 (D 3))) (updA f j (sThawF (N j) (f j))) g rk rf rg rh) := hD
          refine lv_aload_n hx hb dL_isDecided_78 rfl (lv_at hl 4 rfl) ?_
          refine lv_bipush (v := 32) hx hb dL_isDecided_79 (by decide) ?_
          refine lv_iload hx hb dL_isDecided_81 (lv_at hl 6 rfl) ?_
          refine lv_iadd hx hb dL_isDecided_83 ?_
          refine gtop (y := nI (32 + j)) (nI_add 32 j) ?_
          refine giald (j := (32 + j)) hx hb hK hP 1 0 rfl rfl (show (nI (32 + j) : Int32) = nI (32 + j) from rfl) (by omega) (by decide) dL_isDecided_84 ?_
          refine gtop (y := 0) (hc32.trans (if_neg h61)) ?_
          refine lv_iconst (v := 1) hx hb dL_isDecided_85 (by decide) ?_
          refine lv_icmp_ne (tgt := 161) hx hb dL_isDecided_86 (by decide) (fun c86 => ?_) (fun c86 => ?_)
          · skip
            refine lv_iload hx hb dL_isDecided_161 (lv_at hl 0 rfl) ?_
            refine lv_iconst (v := 2) hx hb dL_isDecided_163 (by decide) ?_
            refine lv_icmp_eq (tgt := 173) hx hb dL_isDecided_164 (by decide) (fun c164 => ?_) (fun c164 => ?_)
            · skip
              refine lv_aload_n hx hb dL_isDecided_173 rfl (lv_at hl 3 rfl) ?_
              refine lv_iload hx hb dL_isDecided_174 (lv_at hl 6 rfl) ?_
              refine giald (j := j) hx hb hK hP 0 0 rfl rfl (show (nI j : Int32) = nI j from rfl) (by omega) (by decide) dL_isDecided_176 ?_
              refine gtop (y := 2) (by rw [upd_no (by omega), upd_no (by omega), upd_at]; rw [updA_at, sThaw, if_neg h61]; exact h6) ?_
              refine lv_iload hx hb dL_isDecided_177 (lv_at hl 0 rfl) ?_
              refine lv_icmp_ne (tgt := 219) hx hb dL_isDecided_179 (by decide) (fun c179 => ?_) (fun c179 => ?_)
              · exact absurd c179 (by decide)
              · skip
                refine lv_iload hx hb dL_isDecided_182 (lv_at hl 7 rfl) ?_
                refine lv_iconst (v := 1) hx hb dL_isDecided_184 (by decide) ?_
                refine lv_icmp_ne (tgt := 203) hx hb dL_isDecided_185 (by decide) (fun c185 => ?_) (fun c185 => ?_)
                · exact absurd c185 (by decide)
                · skip
                  refine lv_aload_n hx hb dL_isDecided_188 rfl (lv_at hl 3 rfl) ?_
                  refine lv_bipush (v := 16) hx hb dL_isDecided_189 (by decide) ?_
                  refine lv_iload hx hb dL_isDecided_191 (lv_at hl 6 rfl) ?_
                  refine lv_iadd hx hb dL_isDecided_193 ?_
                  refine gtop (y := nI (16 + j)) (nI_add 16 j) ?_
                  refine giald (j := (16 + j)) hx hb hK hP 0 0 rfl rfl (show (nI (16 + j) : Int32) = nI (16 + j) from rfl) (by omega) (by decide) dL_isDecided_194 ?_
                  refine gtop (y := nI q) (by rw [upd_no (by omega), upd_at, updA_at, sThaw, if_neg h61, if_neg (by decide)]; exact h7) ?_
                  refine lv_iload hx hb dL_isDecided_195 (lv_at hl 1 rfl) ?_
                  refine lv_icmp_eq (tgt := 219) hx hb dL_isDecided_197 (by decide) (fun c197 => ?_) (fun c197 => ?_)
                  · exact absurd (nI_inj (by omega) (by omega) c197) hqo
                  · skip
                    refine lv_goto (tgt := 215) hx hb dL_isDecided_200 (by decide) ?_
                    refine lv_iconst (v := 1) hx hb dL_isDecided_215 (by decide) ?_
                    refine lv_goto (tgt := 220) hx hb dL_isDecided_216 (by decide) ?_
                    refine W.widen (k := 5) (n := 30) (Nat.le_of_ble_eq_true rfl) (Nat.le_of_ble_eq_true rfl) ?_
                    have hI9 : INV d a D mny (updA N j (sThaw (N j) 1 (D 3))) (updA f j (sThawF (N j) (f j))) rk rf rg rh (upd (upd (upd ta j ((updA N j (sThaw (N j) 1 (D 3))) j 0)) (16 + j) ((updA N j (sThaw (N j) 1 (D 3))) j 1)) (32 + j) (sDay ((updA N j (sThaw (N j) 1 (D 3))) j))) ca fa ga := INV.decideF hI hj16 c12 hz9 (by omega) (by omega) ho6 hq6 hzd he1 he2 hd h6 h1 h7 h8 h3 rfl rfl
                    exact W.zret (v := 1) hx hb hr (by decide) (fun w9 ht9 hW => ⟨⟨1, (D, mny, (updA N j (sThaw (N j) 1 (D 3))), (updA f j (sThawF (N j) (f j))), g, rk, rf, rg, rh, (upd (upd (upd ta j ((updA N j (sThaw (N j) 1 (D 3))) j 0)) (16 + j) ((updA N j (sThaw (N j) 1 (D 3))) j 1)) (32 + j) (sDay ((updA N j (sThaw (N j) 1 (D 3))) j))), ca, fa, ga), rfl, ⟨rfl, hI9⟩, gBi ht9 (gfin hP (rfl))⟩, hS.F ht9⟩) hS.2.2 dL_isDecided_220
            · exact absurd c164 (by decide)
          · exact absurd c86 (by decide)
        · skip
          subst hs9
          refine lv_aload_n hx hb dL_isDecided_49 rfl (lv_at hl 1 rfl) ?_
          refine lv_bipush (v := 16) hx hb dL_isDecided_50 (by decide) ?_
          refine lv_iload hx hb dL_isDecided_52 (lv_at hl 4 rfl) ?_
          refine lv_iadd hx hb dL_isDecided_54 ?_
          refine gtop (y := nI (16 + j)) (nI_add 16 j) ?_
          refine giald (j := (16 + j)) hx hb hK hP 0 0 rfl rfl (show (nI (16 + j) : Int32) = nI (16 + j) from rfl) (by omega) (by decide) dL_isDecided_55 ?_
          refine gtop (y := nI o) (n2.2.1.trans h1) ?_
          refine lv_istore (lv' := [(6, .int (nI o)), (0, .ref (Ad 1)), (1, .ref (Ad 5)), (2, .ref (Ad 6)), (3, .ref (Ad 8)), (4, .int (nI j)), (5, .int 1)]) hx hb dL_isDecided_56 hl (by decide) rfl (fun ls hl => ?_)
          refine lv_aload_n hx hb dL_isDecided_58 rfl (lv_at hl 1 rfl) ?_
          refine lv_bipush (v := 6) hx hb dL_isDecided_59 (by decide) ?_
          refine lv_iload hx hb dL_isDecided_61 (lv_at hl 5 rfl) ?_
          refine lv_iload hx hb dL_isDecided_63 (lv_at hl 6 rfl) ?_
          refine lv_iconst (v := 0) hx hb dL_isDecided_65 (by decide) ?_
          refine gciT (X := wX4 T Ad ta ca fa ga) (vx_runSW (As := [.ref (Ad 1), .int 6, .int (nI j), .int 1, .int 0]) (rest := []) ⟨hx, hb, hml, hown, hts⟩ (cL_does_6_okc l hl0 G T Ad AF D mny N f g rk rf rg rh j 1 0 _ (by omega) (by decide) (by rw [kDecide_n (by omega), if_pos hj16, if_pos c12])) (vx_cwSW 5 hts gL_isDecided_L_does rfl rfl rfl (by decide +kernel) ⟨Nat.le_of_ble_eq_true rfl, Nat.le_of_ble_eq_true rfl⟩) ⟨gblind, gpreT (X := wX4 T Ad ta ca fa ga) hE hK hP hD hS hA⟩ rfl rfl hl.1 rfl (lv_room (Nat.le_of_ble_eq_true rfl)) dL_isDecided_66 ⟨Nat.le_of_ble_eq_true rfl, Nat.le_of_ble_eq_true rfl⟩) hP hD hS hA wC_fst (fun r9 H locs hw hP hD hS => ?_)
          have hP : va_P G vwCl (wW T Ad AF ta ca fa ga D mny (updA N j (sThaw (N j) 1 (D 3))) (updA f j (sThawF (N j) (f j))) g rk rf rg rh) H := hP
          have hD : va_D (va_A (wW T Ad AF ta ca fa ga D mny N f g rk rf rg rh) s.heap.size) (wW T Ad AF ta ca fa ga D mny (updA N j (sThaw (N j) 1 (D 3))) (updA f j (sThawF (N j) (f j))) g rk rf rg rh) := hD
          subst hw
          refine gtop (y := 3) (by rw [sThaw, if_neg h61]; exact h6) ?_
          refine lv_istore (lv' := [(7, .int 3), (6, .int (nI o)), (0, .ref (Ad 1)), (1, .ref (Ad 5)), (2, .ref (Ad 6)), (3, .ref (Ad 8)), (4, .int (nI j)), (5, .int 1)]) hx hb dL_isDecided_69 hl (by decide) rfl (fun ls hl => ?_)
          refine lv_aload_n hx hb dL_isDecided_71 rfl (lv_at hl 2 rfl) ?_
          refine lv_aload_n hx hb dL_isDecided_72 rfl (lv_at hl 3 rfl) ?_
          refine lv_iload hx hb dL_isDecided_73 (lv_at hl 6 rfl) ?_
          refine gcvT (X := ([] : va_W)) (va_runS (As := [.ref (Ad 1), .ref (Ad 5), .int (nI j)]) (rest := []) ⟨hx, hb, hml, hown, hts⟩ (kL_sees_z l hl0 G T Ad AF D mny (updA N j (sThaw (N j) 1 (D 3))) (updA f j (sThawF (N j) (f j))) g rk rf rg rh ta ca fa ga j _ (by omega)) (va_cwS 3 hts gL_isDecided_L_sees rfl rfl rfl (by decide +kernel) ⟨Nat.le_of_ble_eq_true rfl, Nat.le_of_ble_eq_true rfl⟩) ⟨gblind, gpreT (X := ([] : va_W)) hE hK hP hD hS hA⟩ rfl rfl hl.1 rfl (lv_room (Nat.le_of_ble_eq_true rfl)) dL_isDecided_75 ⟨Nat.le_of_ble_eq_true rfl, Nat.le_of_ble_eq_true rfl⟩) hP hD hS hA wW_fst (fun H locs hw hP hD hS => ?_)
          have hP : va_P G vwCl (wW T Ad AF (upd (upd (upd ta j ((updA N j (sThaw (N j) 1 (D 3))) j 0)) (16 + j) ((updA N j (sThaw (N j) 1 (D 3))) j 1)) (32 + j) (sDay ((updA N j (sThaw (N j) 1 (D 3))) j))) ca fa ga D mny (updA N j (sThaw (N j) 1 (D 3))) (updA f j (sThawF (N j) (f j))) g rk rf rg rh) H := hP
          have hD : va_D (va_A (wW T Ad AF ta ca fa ga D mny N f g rk rf rg rh) s.heap.size) (wW T Ad AF (upd (upd (upd ta j ((updA N j (sThaw (N j) 1 (D 3))) j 0)) (16 + j) ((updA N j (sThaw (N j) 1 (D 3))) j 1)) (32 + j) (sDay ((updA N j (sThaw (N j) 1 (D 3))) j))) ca fa ga D mny (updA N j (sThaw (N j) 1 (D 3))) (updA f j (sThawF (N j) (f j))) g rk rf rg rh) := hD
          refine lv_aload_n hx hb dL_isDecided_78 rfl (lv_at hl 4 rfl) ?_
          refine lv_bipush (v := 32) hx hb dL_isDecided_79 (by decide) ?_
          refine lv_iload hx hb dL_isDecided_81 (lv_at hl 6 rfl) ?_
          refine lv_iadd hx hb dL_isDecided_83 ?_
          refine gtop (y := nI (32 + j)) (nI_add 32 j) ?_
          refine giald (j := (32 + j)) hx hb hK hP 1 0 rfl rfl (show (nI (32 + j) : Int32) = nI (32 + j) from rfl) (by omega) (by decide) dL_isDecided_84 ?_
          refine gtop (y := 0) (hc32.trans (if_neg h61)) ?_
          refine lv_iconst (v := 1) hx hb dL_isDecided_85 (by decide) ?_
          refine lv_icmp_ne (tgt := 161) hx hb dL_isDecided_86 (by decide) (fun c86 => ?_) (fun c86 => ?_)
          · skip
            refine lv_iload hx hb dL_isDecided_161 (lv_at hl 0 rfl) ?_
            refine lv_iconst (v := 2) hx hb dL_isDecided_163 (by decide) ?_
            refine lv_icmp_eq (tgt := 173) hx hb dL_isDecided_164 (by decide) (fun c164 => ?_) (fun c164 => ?_)
            · exact absurd c164 (by decide)
            · skip
              refine lv_iload hx hb dL_isDecided_167 (lv_at hl 0 rfl) ?_
              refine lv_iconst (v := 3) hx hb dL_isDecided_169 (by decide) ?_
              refine lv_icmp_ne (tgt := 219) hx hb dL_isDecided_170 (by decide) (fun c170 => ?_) (fun c170 => ?_)
              · exact absurd c170 (by decide)
              · skip
                refine lv_aload_n hx hb dL_isDecided_173 rfl (lv_at hl 3 rfl) ?_
                refine lv_iload hx hb dL_isDecided_174 (lv_at hl 6 rfl) ?_
                refine giald (j := j) hx hb hK hP 0 0 rfl rfl (show (nI j : Int32) = nI j from rfl) (by omega) (by decide) dL_isDecided_176 ?_
                refine gtop (y := 3) (by rw [upd_no (by omega), upd_no (by omega), upd_at]; rw [updA_at, sThaw, if_neg h61]; exact h6) ?_
                refine lv_iload hx hb dL_isDecided_177 (lv_at hl 0 rfl) ?_
                refine lv_icmp_ne (tgt := 219) hx hb dL_isDecided_179 (by decide) (fun c179 => ?_) (fun c179 => ?_)
                · exact absurd c179 (by decide)
                · skip
                  refine lv_iload hx hb dL_isDecided_182 (lv_at hl 7 rfl) ?_
                  refine lv_iconst (v := 1) hx hb dL_isDecided_184 (by decide) ?_
                  refine lv_icmp_ne (tgt := 203) hx hb dL_isDecided_185 (by decide) (fun c185 => ?_) (fun c185 => ?_)
                  · exact absurd c185 (by decide)
                  · skip
                    refine lv_aload_n hx hb dL_isDecided_188 rfl (lv_at hl 3 rfl) ?_
                    refine lv_bipush (v := 16) hx hb dL_isDecided_189 (by decide) ?_
                    refine lv_iload hx hb dL_isDecided_191 (lv_at hl 6 rfl) ?_
                    refine lv_iadd hx hb dL_isDecided_193 ?_
                    refine gtop (y := nI (16 + j)) (nI_add 16 j) ?_
                    refine giald (j := (16 + j)) hx hb hK hP 0 0 rfl rfl (show (nI (16 + j) : Int32) = nI (16 + j) from rfl) (by omega) (by decide) dL_isDecided_194 ?_
                    refine gtop (y := nI q) (by rw [upd_no (by omega), upd_at, updA_at, sThaw, if_neg h61, if_neg (by decide)]; exact h7) ?_
                    refine lv_iload hx hb dL_isDecided_195 (lv_at hl 1 rfl) ?_
                    refine lv_icmp_eq (tgt := 219) hx hb dL_isDecided_197 (by decide) (fun c197 => ?_) (fun c197 => ?_)
                    · exact absurd (nI_inj (by omega) (by omega) c197) hqo
                    · skip
                      refine lv_goto (tgt := 215) hx hb dL_isDecided_200 (by decide) ?_
                      refine lv_iconst (v := 1) hx hb dL_isDecided_215 (by decide) ?_
                      refine lv_goto (tgt := 220) hx hb dL_isDecided_216 (by decide) ?_
                      refine W.widen (k := 5) (n := 30) (Nat.le_of_ble_eq_true rfl) (Nat.le_of_ble_eq_true rfl) ?_
                      have hI9 : INV d a D mny (updA N j (sThaw (N j) 1 (D 3))) (updA f j (sThawF (N j) (f j))) rk rf rg rh (upd (upd (upd ta j ((updA N j (sThaw (N j) 1 (D 3))) j 0)) (16 + j) ((updA N j (sThaw (N j) 1 (D 3))) j 1)) (32 + j) (sDay ((updA N j (sThaw (N j) 1 (D 3))) j))) ca fa ga := INV.decideF hI hj16 c12 hz9 (by omega) (by omega) ho6 hq6 hzd he1 he2 hd h6 h1 h7 h8 h3 rfl rfl
                      exact W.zret (v := 1) hx hb hr (by decide) (fun w9 ht9 hW => ⟨⟨1, (D, mny, (updA N j (sThaw (N j) 1 (D 3))), (updA f j (sThawF (N j) (f j))), g, rk, rf, rg, rh, (upd (upd (upd ta j ((updA N j (sThaw (N j) 1 (D 3))) j 0)) (16 + j) ((updA N j (sThaw (N j) 1 (D 3))) j 1)) (32 + j) (sDay ((updA N j (sThaw (N j) 1 (D 3))) j))), ca, fa, ga), rfl, ⟨rfl, hI9⟩, gBi ht9 (gfin hP (rfl))⟩, hS.F ht9⟩) hS.2.2 dL_isDecided_220
          · exact absurd c86 (by decide)
    · skip
      refine lv_aload_n hx hb dL_isDecided_15 rfl (lv_at hl 0 rfl) ?_
      refine lv_bipush (v := 6) hx hb dL_isDecided_16 (by decide) ?_
      refine lv_iload hx hb dL_isDecided_18 (lv_at hl 4 rfl) ?_
      refine lv_iload hx hb dL_isDecided_20 (lv_at hl 5 rfl) ?_
      refine lv_iconst (v := 0) hx hb dL_isDecided_22 (by decide) ?_
      refine gciT (X := wX4 T Ad ta ca fa ga) (vx_runSW (As := [.ref (Ad 1), .int 6, .int (nI j), .int 1, .int 0]) (rest := []) ⟨hx, hb, hml, hown, hts⟩ (cL_does_6_noc l hl0 G T Ad AF D mny N f g rk rf rg rh j (nI j) 1 0 _ hj16 (fun _ => ⟨rfl, hj16⟩) (by decide) (fun h9 => absurd (h9.symm.trans (show kDecide (N j) (nI j) = 3 by rw [kDecide_n (by omega), if_pos hj16, if_neg c12])) (by decide))) (vx_cwSW 5 hts gL_isDecided_L_does rfl rfl rfl (by decide +kernel) ⟨Nat.le_of_ble_eq_true rfl, Nat.le_of_ble_eq_true rfl⟩) ⟨gblind, gpreT (X := wX4 T Ad ta ca fa ga) hE hK hP hD hS hA⟩ rfl rfl hl.1 rfl (lv_room (Nat.le_of_ble_eq_true rfl)) dL_isDecided_23 ⟨Nat.le_of_ble_eq_true rfl, Nat.le_of_ble_eq_true rfl⟩) hP hD hS hA wC_fst (fun r9 H locs hw hP hD hS => ?_)
      have hP : va_P G vwCl (wW T Ad AF ta ca fa ga D mny N f g rk rf rg rh) H := hP
      have hD : va_D (va_A (wW T Ad AF ta ca fa ga D mny N f g rk rf rg rh) s.heap.size) (wW T Ad AF ta ca fa ga D mny N f g rk rf rg rh) := hD
      subst hw
      refine gtop (y := (-10)) (wD_10 (show kDecide (N j) (nI j) = 3 by rw [kDecide_n (by omega), if_pos hj16, if_neg c12])) ?_
      refine lv_iload hx hb dL_isDecided_26 (lv_at hl 4 rfl) ?_
      refine lv_bipush (v := 16) hx hb dL_isDecided_28 (by decide) ?_
      refine lv_icmp_ne (tgt := 38) hx hb dL_isDecided_30 (by decide) (fun c30 => ?_) (fun c30 => ?_)
      · skip
        refine lv_bipush (v := (-10)) hx hb dL_isDecided_38 (by decide) ?_
        refine lv_icmp_ne (tgt := 47) hx hb dL_isDecided_40 (by decide) (fun c40 => ?_) (fun c40 => ?_)
        · exact absurd c40 (by decide)
        · skip
          refine lv_iconst (v := 1) hx hb dL_isDecided_43 (by decide) ?_
          refine lv_goto (tgt := 48) hx hb dL_isDecided_44 (by decide) ?_
          refine W.widen (k := 5) (n := 30) (Nat.le_of_ble_eq_true rfl) (Nat.le_of_ble_eq_true rfl) ?_
          exact W.zret (v := 1) hx hb hr (by decide) (fun w9 ht9 hW => ⟨⟨1, (D, mny, N, f, g, rk, rf, rg, rh, ta, ca, fa, ga), rfl, ⟨rfl, hI⟩, gBi ht9 (gfin hP (rfl))⟩, hS.F ht9⟩) hS.2.2 dL_isDecided_48
      · exact absurd c30 c4
