/-! THE LAW'S METHODS: isDone -/
theorem INV.deposit {d a i x p : Nat} {m : Nat → Nat} {D mny : Nat → Int32} {N f : Nat → Nat → Int32} {rk rf rg rh : Nat → Nat → Int32} {t c F G : Nat → Int32} (h : INV d a D mny N f rk rf rg rh t c F G) (hi : i < 6) (hp : D 4 = nI p) (hm : ∀ k, k < 6 → mny k = nI (m k)) (hs : psum p m 6 = a) : INV d (a + x) D (upd mny i (mny i + nI x)) N f rk rf rg rh t c F (upd G 1 (nI (a + x))) := by
  obtain ⟨i1, i2, i3, i4, i5, i6, i7⟩ := h
  exact ⟨i1, i2, MI.give hp hm hs hi rfl (by rw [upd_at, hm i hi, nI_add]) (fun k hk => upd_no hk), upd_at _ _ _, i5, i6, i7⟩
theorem INV.g1 {d a : Nat} {D mny : Nat → Int32} {N f : Nat → Nat → Int32} {rk rf rg rh : Nat → Nat → Int32} {t c F G : Nat → Int32} (h : INV d a D mny N f rk rf rg rh t c F G) : INV d a D mny N f rk rf rg rh t c F (upd G 1 (nI (a + 0))) := by
  obtain ⟨i1, i2, i3, i4, i5, i6, i7⟩ := h
  exact ⟨i1, i2, i3, upd_at _ _ _, i5, i6, i7⟩
theorem sKept_0 : ∀ n, sKept (fun _ => 0) n = 0
  | 0 => rfl
  | n + 1 => by rw [sKept, sKept_0 n]; rfl
theorem INV.flush {d a : Nat} {D mny : Nat → Int32} {N f : Nat → Nat → Int32} {rk rf rg rh : Nat → Nat → Int32} {t c F G : Nat → Int32} (h : INV d a D mny N f rk rf rg rh t c F G) : INV d a D mny N f (updA rk 0 (fun _ => 0)) rf rg rh t c (fa_fill2 (-1) F 16) (upd G 2 0) := by
  obtain ⟨i1, i2, i3, i4, i5, i6, i7⟩ := h
  refine ⟨i1, i2, i3, i4, i5, fun j hj => Or.inl ⟨by rw [updA_at], ?_⟩, by rw [upd_at, updA_at, sKept_0]⟩
  simp only [fa_fill2]
  rw [if_pos hj]
abbrev PL_isDone (G : va_G) (T : Nat → ClassId) (b L : Nat) (xs : Nat → Int32) (Ad : Nat → Nat) (AF : Nat → Nat → Nat) (D mny : Nat → Int32) (N f g : Nat → Nat → Int32) (rk rf rg rh : Nat → Nat → Int32) (ta ca fa ga : Nat → Int32) (k d a : Nat) (sz : Nat) : Array Value → State → Prop := gPs G T b L xs [.ref (Ad 1), .ref b, .int (nI k), .ref (Ad 5), .ref (Ad 6), .ref (Ad 7), .ref (Ad 8)] (wW T Ad AF ta ca fa ga D mny N f g rk rf rg rh) sz
abbrev QL_isDone (G : va_G) (T : Nat → ClassId) (b L : Nat) (xs : Nat → Int32) (Ad : Nat → Nat) (AF : Nat → Nat → Nat) (D mny : Nat → Int32) (N f g : Nat → Nat → Int32) (rk rf rg rh : Nat → Nat → Int32) (ta ca fa ga : Nat → Int32) (k d a : Nat) (sz : Nat) : Array Value → State → Outcome → State → Prop := va_Qi (fun (r : Int32) (u : UL) => r = 1 ∧ ∃ d2 a2 : Nat, d2 ≤ d + 110 ∧ a2 ≤ a + 400 ∧ INVu d2 a2 u) (fun (u : UL) (w9 : State) => va_P G vwCl (wW T Ad AF u.2.2.2.2.2.2.2.2.2.1 u.2.2.2.2.2.2.2.2.2.2.1 u.2.2.2.2.2.2.2.2.2.2.2.1 u.2.2.2.2.2.2.2.2.2.2.2.2 u.1 u.2.1 u.2.2.1 u.2.2.2.1 u.2.2.2.2.1 u.2.2.2.2.2.1 u.2.2.2.2.2.2.1 u.2.2.2.2.2.2.2.1 u.2.2.2.2.2.2.2.2.1) w9.heap) (va_A (wW T Ad AF ta ca fa ga D mny N f g rk rf rg rh) sz)
set_option maxHeartbeats 4000000 in
set_option maxRecDepth 100000 in
theorem kL_isDone (l : Launch) (hl0 : l.stackTraces = false) (G : va_G) (T : Nat → ClassId) (b L : Nat) (xs : Nat → Int32) (Ad : Nat → Nat) (AF : Nat → Nat → Nat) (D mny : Nat → Int32) (N f g : Nat → Nat → Int32) (rk rf rg rh : Nat → Nat → Int32) (ta ca fa ga : Nat → Int32) (k d a : Nat) (sz : Nat) (hI : INV d a D mny N f rk rf rg rh ta ca fa ga) (hd : d < 2 ^ 19) (ha : a < 2 ^ 19) (hk : k < 400) (hL : L ≤ 260) : Met l yL_isDone wsL_isDone ({ frames := 10, cells := 16, slots := 96, locals := 183 } : Room) (PL_isDone G T b L xs Ad AF D mny N f g rk rf rg rh ta ca fa ga k d a sz) (QL_isDone G T b L xs Ad AF D mny N f g rk rf rg rh ta ca fa ga k d a sz) 16 96 (va_A (wW T Ad AF ta ca fa ga D mny N f g rk rf rg rh) sz) := by
  refine Met.ofW (cc := cL_isDone) (maxL := 16) (ret := (some .boolean)) (by decide) rfl ?_
  intro p e s m args below meth c s₁ B hml hv
  obtain ⟨rfl, ⟨hsz, hP, hK, hD0, hE⟩, hX, hbl, hbA⟩ := hv
  have hx := B.exec
  have hb := B.bytes
  have hr := B.returns
  have hts := atoms_spec (ws := wsL_isDone) B.pre
  have hown : s.vm.findClass RL = some m.cls := findClass_of_methodNamed B.named
  have hlocks := B.notSynchronized
  subst hsz
  have hD := hD0.self (sz := s.heap.size)
  have hA : ∀ q : Nat, s.heap.size ≤ q → (va_A (wW T Ad AF ta ca fa ga D mny N f g rk rf rg rh) s.heap.size) q := fun q h => Or.inr h
  have hS : va_S (va_A (wW T Ad AF ta ca fa ga D mny N f g rk rf rg rh) s.heap.size) s.heap s.heap [] := va_S.rf
  have hl := lv_entry ([.ref (Ad 1), .ref b, .int (nI k), .ref (Ad 5), .ref (Ad 6), .ref (Ad 7), .ref (Ad 8)]) (n := 16) (Nat.le_of_ble_eq_true rfl)
  rw [lg_entry_eq]
  generalize (lg_sl ([.ref (Ad 1), .ref b, .int (nI k), .ref (Ad 5), .ref (Ad 6), .ref (Ad 7), .ref (Ad 8)]) ++ List.replicate (16 - (lg_sl ([.ref (Ad 1), .ref b, .int (nI k), .ref (Ad 5), .ref (Ad 6), .ref (Ad 7), .ref (Ad 8)])).length) Slot.unset).toArray = ls at hl ⊢
  have hl : lv_has ls 16 [(0, .ref (Ad 1)), (1, .ref b), (2, .int (nI k)), (3, .ref (Ad 5)), (4, .ref (Ad 6)), (5, .ref (Ad 7)), (6, .ref (Ad 8))] := hl
  obtain ⟨i1, i2, ⟨m9, p9, j1, j2, j3⟩, i4, i5, i6, i7⟩ := id hI
  have hp9 : p9 < 2 ^ 20 := Nat.lt_of_le_of_lt psum_p (by rw [j3]; omega)
  have hm9 : ∀ k, k < 6 → m9 k < 2 ^ 20 := fun k hk => by have := psum_le (p := p9) (m := m9) hk; omega
  have hP : va_P G vwCl (wW T Ad AF ta ca fa ga D mny N f g rk rf rg rh) s.heap := hP
  refine lv_aload_n hx hb dL_isDone_0 rfl (lv_at hl 1 rfl) ?_
  refine lv_iload_n hx hb dL_isDone_1 rfl (lv_at hl 2 rfl) ?_
  refine lv_bipush (v := 40) hx hb dL_isDone_2 (by decide) ?_
  refine gciET (X := ([] : va_W)) (va_runS (As := [.ref b, .int (nI k), .int 40]) (rest := []) ⟨hx, hb, hml, hown, hts⟩ (kL_part l G T (wW T Ad AF ta ca fa ga D mny N f g rk rf rg rh) b L xs k 40 _ (by omega) (by omega) (by omega) (by omega)) (va_cwS 3 hts gL_isDone_L_part rfl rfl rfl (by decide +kernel) ⟨Nat.le_of_ble_eq_true rfl, Nat.le_of_ble_eq_true rfl⟩) ⟨gblindS, gpreST (X := ([] : va_W)) hX hbl hbA hE hK hP hD hS hA⟩ rfl rfl hl.1 rfl (lv_room (Nat.le_of_ble_eq_true rfl)) dL_isDone_4 ⟨Nat.le_of_ble_eq_true rfl, Nat.le_of_ble_eq_true rfl⟩) hP hD hS hA (fun _ => rfl) (fun r9 u_1 H locs hw hP hD hS => ?_)
  obtain ⟨hw, hu_1⟩ := hw
  subst hw
  have hP : va_P G vwCl (wW T Ad AF ta ca fa ga D mny N f g rk rf rg rh) H := hP
  have hD : va_D (va_A (wW T Ad AF ta ca fa ga D mny N f g rk rf rg rh) s.heap.size) (wW T Ad AF ta ca fa ga D mny N f g rk rf rg rh) := hD
  refine lv_istore (lv' := [(7, .int (nI u_1)), (0, .ref (Ad 1)), (1, .ref b), (2, .int (nI k)), (3, .ref (Ad 5)), (4, .ref (Ad 6)), (5, .ref (Ad 7)), (6, .ref (Ad 8))]) hx hb dL_isDone_7 hl (by decide) rfl (fun ls hl => ?_)
  refine lv_aload_n hx hb dL_isDone_9 rfl (lv_at hl 2 rfl) ?_
  refine lv_iload_n hx hb dL_isDone_10 rfl (lv_at hl 3 rfl) ?_
  refine lv_iconst (v := 1) hx hb dL_isDone_11 (by decide) ?_
  refine lv_iadd hx hb dL_isDone_12 ?_
  refine gtop (y := nI (k + 1)) (nI_add k 1) ?_
  refine lv_sipush (v := 6000) hx hb dL_isDone_13 (by decide) ?_
  refine gciET (X := ([] : va_W)) (va_runS (As := [.ref b, .int (nI (k + 1)), .int 6000]) (rest := []) ⟨hx, hb, hml, hown, hts⟩ (kL_part l G T (wW T Ad AF ta ca fa ga D mny N f g rk rf rg rh) b L xs (k + 1) 6000 _ (by omega) (by omega) (by omega) (by omega)) (va_cwS 3 hts gL_isDone_L_part rfl rfl rfl (by decide +kernel) ⟨Nat.le_of_ble_eq_true rfl, Nat.le_of_ble_eq_true rfl⟩) ⟨gblindS, gpreST (X := ([] : va_W)) hX hbl hbA hE hK hP hD hS hA⟩ rfl rfl hl.1 rfl (lv_room (Nat.le_of_ble_eq_true rfl)) dL_isDone_16 ⟨Nat.le_of_ble_eq_true rfl, Nat.le_of_ble_eq_true rfl⟩) hP hD hS hA (fun _ => rfl) (fun r9 u_2 H locs hw hP hD hS => ?_)
  obtain ⟨hw, hu_2⟩ := hw
  subst hw
  have hP : va_P G vwCl (wW T Ad AF ta ca fa ga D mny N f g rk rf rg rh) H := hP
  have hD : va_D (va_A (wW T Ad AF ta ca fa ga D mny N f g rk rf rg rh) s.heap.size) (wW T Ad AF ta ca fa ga D mny N f g rk rf rg rh) := hD
  refine lv_istore (lv' := [(8, .int (nI u_2)), (7, .int (nI u_1)), (0, .ref (Ad 1)), (1, .ref b), (2, .int (nI k)), (3, .ref (Ad 5)), (4, .ref (Ad 6)), (5, .ref (Ad 7)), (6, .ref (Ad 8))]) hx hb dL_isDone_19 hl (by decide) rfl (fun ls hl => ?_)
  refine lv_aload_n hx hb dL_isDone_21 rfl (lv_at hl 3 rfl) ?_
  refine lv_iload_n hx hb dL_isDone_22 rfl (lv_at hl 4 rfl) ?_
  refine lv_iconst (v := 2) hx hb dL_isDone_23 (by decide) ?_
  refine lv_iadd hx hb dL_isDone_24 ?_
  refine gtop (y := nI (k + 2)) (nI_add k 2) ?_
  refine lv_sipush (v := 7000) hx hb dL_isDone_25 (by decide) ?_
  refine gciET (X := ([] : va_W)) (va_runS (As := [.ref b, .int (nI (k + 2)), .int 7000]) (rest := []) ⟨hx, hb, hml, hown, hts⟩ (kL_part l G T (wW T Ad AF ta ca fa ga D mny N f g rk rf rg rh) b L xs (k + 2) 7000 _ (by omega) (by omega) (by omega) (by omega)) (va_cwS 3 hts gL_isDone_L_part rfl rfl rfl (by decide +kernel) ⟨Nat.le_of_ble_eq_true rfl, Nat.le_of_ble_eq_true rfl⟩) ⟨gblindS, gpreST (X := ([] : va_W)) hX hbl hbA hE hK hP hD hS hA⟩ rfl rfl hl.1 rfl (lv_room (Nat.le_of_ble_eq_true rfl)) dL_isDone_28 ⟨Nat.le_of_ble_eq_true rfl, Nat.le_of_ble_eq_true rfl⟩) hP hD hS hA (fun _ => rfl) (fun r9 u_3 H locs hw hP hD hS => ?_)
  obtain ⟨hw, hu_3⟩ := hw
  subst hw
  have hP : va_P G vwCl (wW T Ad AF ta ca fa ga D mny N f g rk rf rg rh) H := hP
  have hD : va_D (va_A (wW T Ad AF ta ca fa ga D mny N f g rk rf rg rh) s.heap.size) (wW T Ad AF ta ca fa ga D mny N f g rk rf rg rh) := hD
  refine lv_istore (lv' := [(9, .int (nI u_3)), (8, .int (nI u_2)), (7, .int (nI u_1)), (0, .ref (Ad 1)), (1, .ref b), (2, .int (nI k)), (3, .ref (Ad 5)), (4, .ref (Ad 6)), (5, .ref (Ad 7)), (6, .ref (Ad 8))]) hx hb dL_isDone_31 hl (by decide) rfl (fun ls hl => ?_)
  refine lv_aload_n hx hb dL_isDone_33 rfl (lv_at hl 4 rfl) ?_
  refine lv_iload_n hx hb dL_isDone_34 rfl (lv_at hl 5 rfl) ?_
  refine lv_iconst (v := 3) hx hb dL_isDone_35 (by decide) ?_
  refine lv_iadd hx hb dL_isDone_36 ?_
  refine gtop (y := nI (k + 3)) (nI_add k 3) ?_
  refine lv_sipush (v := 8000) hx hb dL_isDone_37 (by decide) ?_
  refine gciET (X := ([] : va_W)) (va_runS (As := [.ref b, .int (nI (k + 3)), .int 8000]) (rest := []) ⟨hx, hb, hml, hown, hts⟩ (kL_part l G T (wW T Ad AF ta ca fa ga D mny N f g rk rf rg rh) b L xs (k + 3) 8000 _ (by omega) (by omega) (by omega) (by omega)) (va_cwS 3 hts gL_isDone_L_part rfl rfl rfl (by decide +kernel) ⟨Nat.le_of_ble_eq_true rfl, Nat.le_of_ble_eq_true rfl⟩) ⟨gblindS, gpreST (X := ([] : va_W)) hX hbl hbA hE hK hP hD hS hA⟩ rfl rfl hl.1 rfl (lv_room (Nat.le_of_ble_eq_true rfl)) dL_isDone_40 ⟨Nat.le_of_ble_eq_true rfl, Nat.le_of_ble_eq_true rfl⟩) hP hD hS hA (fun _ => rfl) (fun r9 u_4 H locs hw hP hD hS => ?_)
  obtain ⟨hw, hu_4⟩ := hw
  subst hw
  have hP : va_P G vwCl (wW T Ad AF ta ca fa ga D mny N f g rk rf rg rh) H := hP
  have hD : va_D (va_A (wW T Ad AF ta ca fa ga D mny N f g rk rf rg rh) s.heap.size) (wW T Ad AF ta ca fa ga D mny N f g rk rf rg rh) := hD
  refine lv_istore (lv' := [(10, .int (nI u_4)), (9, .int (nI u_3)), (8, .int (nI u_2)), (7, .int (nI u_1)), (0, .ref (Ad 1)), (1, .ref b), (2, .int (nI k)), (3, .ref (Ad 5)), (4, .ref (Ad 6)), (5, .ref (Ad 7)), (6, .ref (Ad 8))]) hx hb dL_isDone_43 hl (by decide) rfl (fun ls hl => ?_)
  have J84 : ∀ (i : Nat) (j : Nat) (w : Nat) (y1 : Nat) (y3 : Nat) (H : Heap) (locs : List Loc) (ls : Array Slot), (i ≤ 6) → (j < 4 ∨ j = 16) → (w < 40) → (y1 < 6000) → (y3 < 8000) → va_P G vwCl (wW T Ad AF ta ca fa ga D mny N f g rk rf rg rh) H → va_D (va_A (wW T Ad AF ta ca fa ga D mny N f g rk rf rg rh) s.heap.size) (wW T Ad AF ta ca fa ga D mny N f g rk rf rg rh) → va_S (va_A (wW T Ad AF ta ca fa ga D mny N f g rk rf rg rh) s.heap.size) s.heap H locs → lv_has ls 16 [(0, .ref (Ad 1)), (3, .ref (Ad 5)), (4, .ref (Ad 6)), (5, .ref (Ad 7)), (6, .ref (Ad 8)), (7, .int (nI w)), (8, .int (nI y1)), (10, .int (nI y3)), (11, .int (nI i)), (12, .int (nI j))] → W p l e (headSpec wsL_isDone ({ frames := 10, cells := 16, slots := 96, locals := 183 } : Room)).room s m ([.ref (Ad 1), .ref b, .int (nI k), .ref (Ad 5), .ref (Ad 6), .ref (Ad 7), .ref (Ad 8)] : List Value).toArray below meth c H locs 0 0 (MQ below (QL_isDone G T b L xs Ad AF D mny N f g rk rf rg rh ta ca fa ga k d a s.heap.size) ([.ref (Ad 1), .ref b, .int (nI k), .ref (Ad 5), .ref (Ad 6), .ref (Ad 7), .ref (Ad 8)] : List Value).toArray s 16 96 (va_A (wW T Ad AF ta ca fa ga D mny N f g rk rf rg rh) s.heap.size)) (F0 m 84 ls []) := by
    intro i j w y1 y3 H locs ls hi7 hnj hw40 hy1 hy3 hP hD hS hl
    refine lv_iload hx hb dL_isDone_84 (lv_at hl 5 rfl) ?_
    refine lv_bipush (v := 6) hx hb dL_isDone_86 (by decide) ?_
    refine lv_icmp_ge (tgt := 188) hx hb dL_isDone_88 (by decide) (fun c88 => ?_) (fun c88 => ?_)
    · skip
      refine lv_iload hx hb dL_isDone_188 (lv_at hl 5 rfl) ?_
      refine lv_bipush (v := 16) hx hb dL_isDone_190 (by decide) ?_
      refine lv_icmp_ge (tgt := 229) hx hb dL_isDone_192 (by decide) (fun c192 => ?_) (fun c192 => ?_)
      · skip
        refine lv_iload hx hb dL_isDone_229 (lv_at hl 5 rfl) ?_
        refine lv_bipush (v := 19) hx hb dL_isDone_231 (by decide) ?_
        refine lv_icmp_ge (tgt := 251) hx hb dL_isDone_233 (by decide) (fun c233 => ?_) (fun c233 => ?_)
        · skip
          refine lv_iload hx hb dL_isDone_251 (lv_at hl 5 rfl) ?_
          refine lv_bipush (v := 19) hx hb dL_isDone_253 (by decide) ?_
          refine lv_icmp_ne (tgt := 270) hx hb dL_isDone_255 (by decide) (fun c255 => ?_) (fun c255 => ?_)
          · skip
            refine lv_iload hx hb dL_isDone_270 (lv_at hl 5 rfl) ?_
            refine lv_bipush (v := 23) hx hb dL_isDone_272 (by decide) ?_
            refine lv_icmp_ge (tgt := 312) hx hb dL_isDone_274 (by decide) (fun c274 => ?_) (fun c274 => ?_)
            · skip
              refine lv_iload hx hb dL_isDone_312 (lv_at hl 5 rfl) ?_
              refine lv_bipush (v := 26) hx hb dL_isDone_314 (by decide) ?_
              refine lv_icmp_ge (tgt := 331) hx hb dL_isDone_316 (by decide) (fun c316 => ?_) (fun c316 => ?_)
              · skip
                refine lv_iload hx hb dL_isDone_331 (lv_at hl 5 rfl) ?_
                refine lv_bipush (v := 29) hx hb dL_isDone_333 (by decide) ?_
                refine lv_icmp_ge (tgt := 354) hx hb dL_isDone_335 (by decide) (fun c335 => ?_) (fun c335 => ?_)
                · skip
                  refine lv_iload hx hb dL_isDone_354 (lv_at hl 5 rfl) ?_
                  refine lv_bipush (v := 33) hx hb dL_isDone_356 (by decide) ?_
                  refine lv_icmp_ge (tgt := 430) hx hb dL_isDone_358 (by decide) (fun c358 => ?_) (fun c358 => ?_)
                  · skip
                    refine lv_iload hx hb dL_isDone_430 (lv_at hl 5 rfl) ?_
                    refine lv_bipush (v := 33) hx hb dL_isDone_432 (by decide) ?_
                    refine lv_icmp_ne (tgt := 500) hx hb dL_isDone_434 (by decide) (fun c434 => ?_) (fun c434 => ?_)
                    · skip
                      refine lv_aload_n hx hb dL_isDone_500 rfl (lv_at hl 0 rfl) ?_
                      refine lv_bipush (v := 7) hx hb dL_isDone_501 (by decide) ?_
                      refine lv_iconst (v := 0) hx hb dL_isDone_503 (by decide) ?_
                      refine lv_iconst (v := 0) hx hb dL_isDone_504 (by decide) ?_
                      refine lv_iconst (v := 0) hx hb dL_isDone_505 (by decide) ?_
                      refine gciT (X := wX4 T Ad ta ca fa ga) (vx_runSW (As := [.ref (Ad 1), .int 7, .int 0, .int 0, .int 0]) (rest := []) ⟨hx, hb, hml, hown, hts⟩ (cL_does_7_noc l hl0 G T Ad AF D mny N f g rk rf rg rh 0 0 0 _ (fun h9 => absurd (h9.symm.trans (show kDays 0 = 2 by decide)) (by decide))) (vx_cwSW 5 hts gL_isDone_L_does rfl rfl rfl (by decide +kernel) ⟨Nat.le_of_ble_eq_true rfl, Nat.le_of_ble_eq_true rfl⟩) ⟨gblind, gpreT (X := wX4 T Ad ta ca fa ga) hE hK hP hD hS hA⟩ rfl rfl hl.1 rfl (lv_room (Nat.le_of_ble_eq_true rfl)) dL_isDone_506 ⟨Nat.le_of_ble_eq_true rfl, Nat.le_of_ble_eq_true rfl⟩) hP hD hS hA wC_fst (fun r9 H locs hw hP hD hS => ?_)
                      have hP : va_P G vwCl (wW T Ad AF ta ca fa ga D mny N f g rk rf rg rh) H := hP
                      have hD : va_D (va_A (wW T Ad AF ta ca fa ga D mny N f g rk rf rg rh) s.heap.size) (wW T Ad AF ta ca fa ga D mny N f g rk rf rg rh) := hD
                      subst hw
                      refine gtop (y := (-20)) (wD_20 (show kDays 0 = 2 by decide)) ?_
                      refine lv_bipush (v := (-20)) hx hb dL_isDone_509 (by decide) ?_
                      refine lv_icmp_ne (tgt := 534) hx hb dL_isDone_511 (by decide) (fun c511 => ?_) (fun c511 => ?_)
                      · exact absurd c511 (by decide)
                      · skip
                        refine lv_aload_n hx hb dL_isDone_514 rfl (lv_at hl 0 rfl) ?_
                        refine lv_bipush (v := 7) hx hb dL_isDone_515 (by decide) ?_
                        refine lv_sipush (v := 201) hx hb dL_isDone_517 (by decide) ?_
                        refine lv_iconst (v := 0) hx hb dL_isDone_520 (by decide) ?_
                        refine lv_iconst (v := 0) hx hb dL_isDone_521 (by decide) ?_
                        refine gciT (X := wX4 T Ad ta ca fa ga) (vx_runSW (As := [.ref (Ad 1), .int 7, .int 201, .int 0, .int 0]) (rest := []) ⟨hx, hb, hml, hown, hts⟩ (cL_does_7_noc l hl0 G T Ad AF D mny N f g rk rf rg rh 201 0 0 _ (fun h9 => absurd (h9.symm.trans (show kDays 201 = 2 by decide)) (by decide))) (vx_cwSW 5 hts gL_isDone_L_does rfl rfl rfl (by decide +kernel) ⟨Nat.le_of_ble_eq_true rfl, Nat.le_of_ble_eq_true rfl⟩) ⟨gblind, gpreT (X := wX4 T Ad ta ca fa ga) hE hK hP hD hS hA⟩ rfl rfl hl.1 rfl (lv_room (Nat.le_of_ble_eq_true rfl)) dL_isDone_522 ⟨Nat.le_of_ble_eq_true rfl, Nat.le_of_ble_eq_true rfl⟩) hP hD hS hA wC_fst (fun r9 H locs hw hP hD hS => ?_)
                        have hP : va_P G vwCl (wW T Ad AF ta ca fa ga D mny N f g rk rf rg rh) H := hP
                        have hD : va_D (va_A (wW T Ad AF ta ca fa ga D mny N f g rk rf rg rh) s.heap.size) (wW T Ad AF ta ca fa ga D mny N f g rk rf rg rh) := hD
                        subst hw
                        refine gtop (y := (-20)) (wD_20 (show kDays 201 = 2 by decide)) ?_
                        refine lv_bipush (v := (-20)) hx hb dL_isDone_525 (by decide) ?_
                        refine lv_icmp_ne (tgt := 534) hx hb dL_isDone_527 (by decide) (fun c527 => ?_) (fun c527 => ?_)
                        · exact absurd c527 (by decide)
                        · skip
                          refine lv_iconst (v := 1) hx hb dL_isDone_530 (by decide) ?_
                          refine lv_goto (tgt := 535) hx hb dL_isDone_531 (by decide) ?_
                          refine lv_istore (lv' := [(13, .int 1), (0, .ref (Ad 1)), (3, .ref (Ad 5)), (4, .ref (Ad 6)), (5, .ref (Ad 7)), (6, .ref (Ad 8)), (7, .int (nI w)), (8, .int (nI y1)), (10, .int (nI y3)), (11, .int (nI i)), (12, .int (nI j))]) hx hb dL_isDone_535 hl (by decide) rfl (fun ls hl => ?_)
                          have J592 : ∀ n8 : Nat, ∀ (q : Nat) (dk : Nat) (dy : Int32) (vD : Nat → Int32) (vm : Nat → Int32) (vN : Nat → Nat → Int32) (vf : Nat → Nat → Int32) (vg : Nat → Nat → Int32) (vk : Nat → Nat → Int32) (vr : Nat → Nat → Int32) (vx : Nat → Nat → Int32) (vh : Nat → Nat → Int32) (vt : Nat → Int32) (vc : Nat → Int32) (vy : Nat → Int32) (vz : Nat → Int32) (H : Heap) (locs : List Loc) (ls : Array Slot), (q ≤ 110) → (111 ≤ q + n8) → (dk ≤ d + q) → (INV dk a vD vm vN vf vk vr vx vh vt vc vy vz) → va_P G vwCl (wW T Ad AF vt vc vy vz vD vm vN vf vg vk vr vx vh) H → va_D (va_A (wW T Ad AF ta ca fa ga D mny N f g rk rf rg rh) s.heap.size) (wW T Ad AF vt vc vy vz vD vm vN vf vg vk vr vx vh) → va_S (va_A (wW T Ad AF ta ca fa ga D mny N f g rk rf rg rh) s.heap.size) s.heap H locs → lv_has ls 16 [(0, .ref (Ad 1)), (3, .ref (Ad 5)), (4, .ref (Ad 6)), (5, .ref (Ad 7)), (6, .ref (Ad 8)), (13, .int 1), (14, .int dy), (15, .int (nI q))] → W p l e (headSpec wsL_isDone ({ frames := 10, cells := 16, slots := 96, locals := 183 } : Room)).room s m ([.ref (Ad 1), .ref b, .int (nI k), .ref (Ad 5), .ref (Ad 6), .ref (Ad 7), .ref (Ad 8)] : List Value).toArray below meth c H locs 2 12 (MQ below (QL_isDone G T b L xs Ad AF D mny N f g rk rf rg rh ta ca fa ga k d a s.heap.size) ([.ref (Ad 1), .ref b, .int (nI k), .ref (Ad 5), .ref (Ad 6), .ref (Ad 7), .ref (Ad 8)] : List Value).toArray s 16 96 (va_A (wW T Ad AF ta ca fa ga D mny N f g rk rf rg rh) s.heap.size)) (F0 m 592 ls []) := by
                            intro n8
                            induction n8 with
                            | zero => intro q dk dy vD vm vN vf vg vk vr vx vh vt vc vy vz H locs ls hq hm hdk hIk hP hD hS hl; exact absurd (hm) (by omega)
                            | succ n8 ih592 =>
                              intro q dk dy vD vm vN vf vg vk vr vx vh vt vc vy vz H locs ls hq hm hdk hIk hP hD hS hl
                              refine lv_iload hx hb dL_isDone_592 (lv_at hl 7 rfl) ?_
                              refine lv_iload hx hb dL_isDone_594 (lv_at hl 6 rfl) ?_
                              refine lv_icmp_ge (tgt := 628) hx hb dL_isDone_596 (by decide) (fun c596 => ?_) (fun c596 => ?_)
                              · skip
                                refine lv_iload hx hb dL_isDone_628 (lv_at hl 5 rfl) ?_
                                refine W.widen (k := 16) (n := 96) (Nat.le_of_ble_eq_true rfl) (Nat.le_of_ble_eq_true rfl) ?_
                                exact W.zret (v := 1) hx hb hr (by decide) (fun w9 ht9 hW => ⟨⟨1, (vD, vm, vN, vf, vg, vk, vr, vx, vh, vt, vc, vy, vz), rfl, ⟨rfl, dk, a, by omega, by omega, hIk⟩, gBi ht9 (gfin hP (rfl))⟩, hS.F ht9⟩) hS.2.2 dL_isDone_630
                              · skip
                                refine lv_iload hx hb dL_isDone_599 (lv_at hl 7 rfl) ?_
                                refine lv_bipush (v := 110) hx hb dL_isDone_601 (by decide) ?_
                                refine lv_icmp_ge (tgt := 628) hx hb dL_isDone_603 (by decide) (fun c603 => ?_) (fun c603 => ?_)
                                · skip
                                  refine lv_iload hx hb dL_isDone_628 (lv_at hl 5 rfl) ?_
                                  refine W.widen (k := 16) (n := 96) (Nat.le_of_ble_eq_true rfl) (Nat.le_of_ble_eq_true rfl) ?_
                                  exact W.zret (v := 1) hx hb hr (by decide) (fun w9 ht9 hW => ⟨⟨1, (vD, vm, vN, vf, vg, vk, vr, vx, vh, vt, vc, vy, vz), rfl, ⟨rfl, dk, a, by omega, by omega, hIk⟩, gBi ht9 (gfin hP (rfl))⟩, hS.F ht9⟩) hS.2.2 dL_isDone_630
                                · skip
                                  have hlt : q < 110 := Nat.not_le.mp (fun q9 => c603 (nI_le (a := 110) q9 (by omega)))
                                  refine lv_iload hx hb dL_isDone_606 (lv_at hl 5 rfl) ?_
                                  refine lv_if_eq (tgt := 628) hx hb dL_isDone_608 (by decide) (fun c608 => ?_) (fun c608 => ?_)
                                  · exact absurd c608 (by decide)
                                  · skip
                                    refine lv_aload_n hx hb dL_isDone_611 rfl (lv_at hl 0 rfl) ?_
                                    refine lv_aload_n hx hb dL_isDone_612 rfl (lv_at hl 1 rfl) ?_
                                    refine lv_aload hx hb dL_isDone_613 (lv_at hl 2 rfl) ?_
                                    refine lv_aload hx hb dL_isDone_615 (lv_at hl 4 rfl) ?_
                                    refine gciET (X := ([] : va_W)) (va_runS (As := [.ref (Ad 1), .ref (Ad 5), .ref (Ad 6), .ref (Ad 8)]) (rest := []) ⟨hx, hb, hml, hown, hts⟩ (kL_isDay l hl0 G T Ad AF vD vm vN vf vg vk vr vx vh vt vc vy vz dk a _ hIk (by omega) (by omega)) (va_cwS 4 hts gL_isDone_L_isDay rfl rfl rfl (by decide +kernel) ⟨Nat.le_of_ble_eq_true rfl, Nat.le_of_ble_eq_true rfl⟩) ⟨gblind, gpreT (X := ([] : va_W)) hE hK hP hD hS hA⟩ rfl rfl hl.1 rfl (lv_room (Nat.le_of_ble_eq_true rfl)) dL_isDone_617 ⟨Nat.le_of_ble_eq_true rfl, Nat.le_of_ble_eq_true rfl⟩) hP hD hS hA (fun _ => wW_fst) (fun r9 u_5 H locs hw hP hD hS => ?_)
                                    obtain ⟨D5, mny5, N5, f5, g5, rk5, rf5, rg5, rh5, ta5, ca5, fa5, ga5⟩ := u_5
                                    obtain ⟨hw, hI5⟩ := hw
                                    subst hw
                                    have hP : va_P G vwCl (wW T Ad AF ta5 ca5 fa5 ga5 D5 mny5 N5 f5 g5 rk5 rf5 rg5 rh5) H := hP
                                    have hD : va_D (va_A (wW T Ad AF ta ca fa ga D mny N f g rk rf rg rh) s.heap.size) (wW T Ad AF ta5 ca5 fa5 ga5 D5 mny5 N5 f5 g5 rk5 rf5 rg5 rh5) := hD
                                    refine lv_istore (lv' := [(13, .int 1), (0, .ref (Ad 1)), (3, .ref (Ad 5)), (4, .ref (Ad 6)), (5, .ref (Ad 7)), (6, .ref (Ad 8)), (14, .int dy), (15, .int (nI q))]) hx hb dL_isDone_620 hl (by decide) rfl (fun ls hl => ?_)
                                    refine lv_iinc (v := nI (q + 1)) (lv' := [(15, .int (nI (q + 1))), (13, .int 1), (0, .ref (Ad 1)), (3, .ref (Ad 5)), (4, .ref (Ad 6)), (5, .ref (Ad 7)), (6, .ref (Ad 8)), (14, .int dy)]) hx hb dL_isDone_622 hl (k := 7) rfl (by first | rfl | exact (nI_add q 1)) (by decide) rfl (fun ls hl => ?_)
                                    refine lv_goto (tgt := 592) hx hb dL_isDone_625 (by decide) ?_
                                    exact ih592 (q + 1) (dk + 1) dy D5 mny5 N5 f5 g5 rk5 rf5 rg5 rh5 ta5 ca5 fa5 ga5 _ _ _ (by omega) (by omega) (by omega) hI5 hP hD hS (lv_sub hl [2, 3, 4, 5, 6, 1, 7, 0] rfl)
                          refine lv_iload hx hb dL_isDone_537 (lv_at hl 10 rfl) ?_
                          refine lv_bipush (v := 16) hx hb dL_isDone_539 (by decide) ?_
                          refine lv_icmp_ge (tgt := 580) hx hb dL_isDone_541 (by decide) (fun c541 => ?_) (fun c541 => ?_)
                          · skip
                            refine lv_iconst (v := 1) hx hb dL_isDone_580 (by decide) ?_
                            refine lv_iload hx hb dL_isDone_581 (lv_at hl 8 rfl) ?_
                            refine lv_bipush (v := 9) hx hb dL_isDone_583 (by decide) ?_
                            refine lv_irem hx hb dL_isDone_585 (by decide) ?_
                            refine gtop (y := nI (y3 % 9)) (pk_rem (d := 9) (by omega) (by decide) (by decide)) ?_
                            refine lv_iadd hx hb dL_isDone_586 ?_
                            refine gtop (y := nI (1 + (y3 % 9))) (nI_add 1 (y3 % 9)) ?_
                            refine lv_istore (lv' := [(14, .int (nI (1 + (y3 % 9)))), (13, .int 1), (0, .ref (Ad 1)), (3, .ref (Ad 5)), (4, .ref (Ad 6)), (5, .ref (Ad 7)), (6, .ref (Ad 8)), (7, .int (nI w)), (8, .int (nI y1)), (10, .int (nI y3)), (11, .int (nI i)), (12, .int (nI j))]) hx hb dL_isDone_587 hl (by decide) rfl (fun ls hl => ?_)
                            refine lv_iconst (v := 0) hx hb dL_isDone_589 (by decide) ?_
                            refine lv_istore (lv' := [(15, .int 0), (14, .int (nI (1 + (y3 % 9)))), (13, .int 1), (0, .ref (Ad 1)), (3, .ref (Ad 5)), (4, .ref (Ad 6)), (5, .ref (Ad 7)), (6, .ref (Ad 8)), (7, .int (nI w)), (8, .int (nI y1)), (10, .int (nI y3)), (11, .int (nI i)), (12, .int (nI j))]) hx hb dL_isDone_590 hl (by decide) rfl (fun ls hl => ?_)
                            exact J592 111 0 d (nI (1 + (y3 % 9))) D mny N f g rk rf rg rh ta ca fa ga _ _ _ (by omega) (by omega) (by omega) hI hP hD hS (lv_sub hl [3, 4, 5, 6, 7, 2, 1, 0] rfl)
                          · skip
                            have hj16 : j < 16 := Nat.not_le.mp (fun q9 => c541 (nI_le (a := 16) q9 (by omega)))
                            refine lv_iload hx hb dL_isDone_544 (lv_at hl 8 rfl) ?_
                            refine lv_iconst (v := 3) hx hb dL_isDone_546 (by decide) ?_
                            refine lv_irem hx hb dL_isDone_547 (by decide) ?_
                            refine gtop (y := nI (y3 % 3)) (pk_rem (d := 3) (by omega) (by decide) (by decide)) ?_
                            refine lv_if_ne (tgt := 580) hx hb dL_isDone_548 (by decide) (fun c548 => ?_) (fun c548 => ?_)
                            · skip
                              refine lv_iconst (v := 1) hx hb dL_isDone_580 (by decide) ?_
                              refine lv_iload hx hb dL_isDone_581 (lv_at hl 8 rfl) ?_
                              refine lv_bipush (v := 9) hx hb dL_isDone_583 (by decide) ?_
                              refine lv_irem hx hb dL_isDone_585 (by decide) ?_
                              refine gtop (y := nI (y3 % 9)) (pk_rem (d := 9) (by omega) (by decide) (by decide)) ?_
                              refine lv_iadd hx hb dL_isDone_586 ?_
                              refine gtop (y := nI (1 + (y3 % 9))) (nI_add 1 (y3 % 9)) ?_
                              refine lv_istore (lv' := [(14, .int (nI (1 + (y3 % 9)))), (13, .int 1), (0, .ref (Ad 1)), (3, .ref (Ad 5)), (4, .ref (Ad 6)), (5, .ref (Ad 7)), (6, .ref (Ad 8)), (7, .int (nI w)), (8, .int (nI y1)), (10, .int (nI y3)), (11, .int (nI i)), (12, .int (nI j))]) hx hb dL_isDone_587 hl (by decide) rfl (fun ls hl => ?_)
                              refine lv_iconst (v := 0) hx hb dL_isDone_589 (by decide) ?_
                              refine lv_istore (lv' := [(15, .int 0), (14, .int (nI (1 + (y3 % 9)))), (13, .int 1), (0, .ref (Ad 1)), (3, .ref (Ad 5)), (4, .ref (Ad 6)), (5, .ref (Ad 7)), (6, .ref (Ad 8)), (7, .int (nI w)), (8, .int (nI y1)), (10, .int (nI y3)), (11, .int (nI i)), (12, .int (nI j))]) hx hb dL_isDone_590 hl (by decide) rfl (fun ls hl => ?_)
                              exact J592 111 0 d (nI (1 + (y3 % 9))) D mny N f g rk rf rg rh ta ca fa ga _ _ _ (by omega) (by omega) (by omega) hI hP hD hS (lv_sub hl [3, 4, 5, 6, 7, 2, 1, 0] rfl)
                            · skip
                              refine lv_aload_n hx hb dL_isDone_551 rfl (lv_at hl 2 rfl) ?_
                              refine lv_bipush (v := 32) hx hb dL_isDone_552 (by decide) ?_
                              refine lv_iload hx hb dL_isDone_554 (lv_at hl 10 rfl) ?_
                              refine lv_iadd hx hb dL_isDone_556 ?_
                              refine gtop (y := nI (32 + j)) (nI_add 32 j) ?_
                              refine giald (j := (32 + j)) hx hb hK hP 0 0 rfl rfl (show (nI (32 + j) : Int32) = nI (32 + j) from rfl) (by omega) (by decide) dL_isDone_557 ?_
                              refine lv_aload hx hb dL_isDone_558 (lv_at hl 5 rfl) ?_
                              refine lv_iconst (v := 0) hx hb dL_isDone_560 (by decide) ?_
                              refine giald (j := 0) hx hb hK hP 3 0 rfl rfl (show (0 : Int32) = nI 0 from rfl) (by omega) (by decide) dL_isDone_561 ?_
                              refine lv_icmp_le (tgt := 580) hx hb dL_isDone_562 (by decide) (fun c562 => ?_) (fun c562 => ?_)
                              · skip
                                refine lv_iconst (v := 1) hx hb dL_isDone_580 (by decide) ?_
                                refine lv_iload hx hb dL_isDone_581 (lv_at hl 8 rfl) ?_
                                refine lv_bipush (v := 9) hx hb dL_isDone_583 (by decide) ?_
                                refine lv_irem hx hb dL_isDone_585 (by decide) ?_
                                refine gtop (y := nI (y3 % 9)) (pk_rem (d := 9) (by omega) (by decide) (by decide)) ?_
                                refine lv_iadd hx hb dL_isDone_586 ?_
                                refine gtop (y := nI (1 + (y3 % 9))) (nI_add 1 (y3 % 9)) ?_
                                refine lv_istore (lv' := [(14, .int (nI (1 + (y3 % 9)))), (13, .int 1), (0, .ref (Ad 1)), (3, .ref (Ad 5)), (4, .ref (Ad 6)), (5, .ref (Ad 7)), (6, .ref (Ad 8)), (7, .int (nI w)), (8, .int (nI y1)), (10, .int (nI y3)), (11, .int (nI i)), (12, .int (nI j))]) hx hb dL_isDone_587 hl (by decide) rfl (fun ls hl => ?_)
                                refine lv_iconst (v := 0) hx hb dL_isDone_589 (by decide) ?_
                                refine lv_istore (lv' := [(15, .int 0), (14, .int (nI (1 + (y3 % 9)))), (13, .int 1), (0, .ref (Ad 1)), (3, .ref (Ad 5)), (4, .ref (Ad 6)), (5, .ref (Ad 7)), (6, .ref (Ad 8)), (7, .int (nI w)), (8, .int (nI y1)), (10, .int (nI y3)), (11, .int (nI i)), (12, .int (nI j))]) hx hb dL_isDone_590 hl (by decide) rfl (fun ls hl => ?_)
                                exact J592 111 0 d (nI (1 + (y3 % 9))) D mny N f g rk rf rg rh ta ca fa ga _ _ _ (by omega) (by omega) (by omega) hI hP hD hS (lv_sub hl [3, 4, 5, 6, 7, 2, 1, 0] rfl)
                              · skip
                                refine lv_aload_n hx hb dL_isDone_565 rfl (lv_at hl 2 rfl) ?_
                                refine lv_bipush (v := 32) hx hb dL_isDone_566 (by decide) ?_
                                refine lv_iload hx hb dL_isDone_568 (lv_at hl 10 rfl) ?_
                                refine lv_iadd hx hb dL_isDone_570 ?_
                                refine gtop (y := nI (32 + j)) (nI_add 32 j) ?_
                                refine giald (j := (32 + j)) hx hb hK hP 0 0 rfl rfl (show (nI (32 + j) : Int32) = nI (32 + j) from rfl) (by omega) (by decide) dL_isDone_571 ?_
                                refine lv_aload hx hb dL_isDone_572 (lv_at hl 5 rfl) ?_
                                refine lv_iconst (v := 0) hx hb dL_isDone_574 (by decide) ?_
                                refine giald (j := 0) hx hb hK hP 3 0 rfl rfl (show (0 : Int32) = nI 0 from rfl) (by omega) (by decide) dL_isDone_575 ?_
                                refine lv_isub hx hb dL_isDone_576 ?_
                                refine lv_goto (tgt := 587) hx hb dL_isDone_577 (by decide) ?_
                                refine lv_istore (lv' := [(14, .int ((ta (32 + j)) - (ga 0))), (13, .int 1), (0, .ref (Ad 1)), (3, .ref (Ad 5)), (4, .ref (Ad 6)), (5, .ref (Ad 7)), (6, .ref (Ad 8)), (7, .int (nI w)), (8, .int (nI y1)), (10, .int (nI y3)), (11, .int (nI i)), (12, .int (nI j))]) hx hb dL_isDone_587 hl (by decide) rfl (fun ls hl => ?_)
                                refine lv_iconst (v := 0) hx hb dL_isDone_589 (by decide) ?_
                                refine lv_istore (lv' := [(15, .int 0), (14, .int ((ta (32 + j)) - (ga 0))), (13, .int 1), (0, .ref (Ad 1)), (3, .ref (Ad 5)), (4, .ref (Ad 6)), (5, .ref (Ad 7)), (6, .ref (Ad 8)), (7, .int (nI w)), (8, .int (nI y1)), (10, .int (nI y3)), (11, .int (nI i)), (12, .int (nI j))]) hx hb dL_isDone_590 hl (by decide) rfl (fun ls hl => ?_)
                                exact J592 111 0 d ((ta (32 + j)) - (ga 0)) D mny N f g rk rf rg rh ta ca fa ga _ _ _ (by omega) (by omega) (by omega) hI hP hD hS (lv_sub hl [3, 4, 5, 6, 7, 2, 1, 0] rfl)
                    · skip
                      refine lv_aload hx hb dL_isDone_437 (lv_at hl 4 rfl) ?_
                      refine lv_iconst (v := 2) hx hb dL_isDone_439 (by decide) ?_
                      refine giald (j := 2) hx hb hK hP 3 0 rfl rfl (show (2 : Int32) = nI 2 from rfl) (by omega) (by decide) dL_isDone_440 ?_
                      refine lv_istore (lv' := [(13, .int (ga 2)), (0, .ref (Ad 1)), (3, .ref (Ad 5)), (4, .ref (Ad 6)), (5, .ref (Ad 7)), (6, .ref (Ad 8)), (7, .int (nI w)), (8, .int (nI y1)), (10, .int (nI y3)), (11, .int (nI i)), (12, .int (nI j))]) hx hb dL_isDone_441 hl (by decide) rfl (fun ls hl => ?_)
                      refine lv_iconst (v := 0) hx hb dL_isDone_443 (by decide) ?_
                      refine lv_istore (lv' := [(14, .int 0), (13, .int (ga 2)), (0, .ref (Ad 1)), (3, .ref (Ad 5)), (4, .ref (Ad 6)), (5, .ref (Ad 7)), (6, .ref (Ad 8)), (7, .int (nI w)), (8, .int (nI y1)), (10, .int (nI y3)), (11, .int (nI i)), (12, .int (nI j))]) hx hb dL_isDone_444 hl (by decide) rfl (fun ls hl => ?_)
                      have J446 : ∀ n9 : Nat, ∀ (z : Nat) (H : Heap) (locs : List Loc) (ls : Array Slot), (z ≤ 16) → (17 ≤ z + n9) → va_P G vwCl (wW T Ad AF ta ca (fa_fill2 (-1) fa z) ga D mny N f g rk rf rg rh) H → va_D (va_A (wW T Ad AF ta ca fa ga D mny N f g rk rf rg rh) s.heap.size) (wW T Ad AF ta ca (fa_fill2 (-1) fa z) ga D mny N f g rk rf rg rh) → va_S (va_A (wW T Ad AF ta ca fa ga D mny N f g rk rf rg rh) s.heap.size) s.heap H locs → lv_has ls 16 [(0, .ref (Ad 1)), (3, .ref (Ad 5)), (4, .ref (Ad 6)), (5, .ref (Ad 7)), (6, .ref (Ad 8)), (13, .int (ga 2)), (14, .int (nI z))] → W p l e (headSpec wsL_isDone ({ frames := 10, cells := 16, slots := 96, locals := 183 } : Room)).room s m ([.ref (Ad 1), .ref b, .int (nI k), .ref (Ad 5), .ref (Ad 6), .ref (Ad 7), .ref (Ad 8)] : List Value).toArray below meth c H locs 0 0 (MQ below (QL_isDone G T b L xs Ad AF D mny N f g rk rf rg rh ta ca fa ga k d a s.heap.size) ([.ref (Ad 1), .ref b, .int (nI k), .ref (Ad 5), .ref (Ad 6), .ref (Ad 7), .ref (Ad 8)] : List Value).toArray s 16 96 (va_A (wW T Ad AF ta ca fa ga D mny N f g rk rf rg rh) s.heap.size)) (F0 m 446 ls []) := by
                        intro n9
                        induction n9 with
                        | zero => intro z H locs ls hz hm hP hD hS hl; exact absurd (hm) (by omega)
                        | succ n9 ih446 =>
                          intro z H locs ls hz hm hP hD hS hl
                          refine lv_iload hx hb dL_isDone_446 (lv_at hl 6 rfl) ?_
                          refine lv_bipush (v := 16) hx hb dL_isDone_448 (by decide) ?_
                          refine lv_icmp_ge (tgt := 465) hx hb dL_isDone_450 (by decide) (fun c450 => ?_) (fun c450 => ?_)
                          · skip
                            have hge : z = 16 := by
                              rcases Nat.lt_or_ge z 16 with q | q
                              · exact absurd c450 (nI_ge (b := 16) q (by omega))
                              · omega
                            rw [hge] at hl hP hD
                            have hl : lv_has ls 16 [(0, .ref (Ad 1)), (3, .ref (Ad 5)), (4, .ref (Ad 6)), (5, .ref (Ad 7)), (6, .ref (Ad 8)), (13, .int (ga 2)), (14, .int 16)] := hl
                            refine lv_aload hx hb dL_isDone_465 (lv_at hl 4 rfl) ?_
                            refine lv_iconst (v := 2) hx hb dL_isDone_467 (by decide) ?_
                            refine lv_iconst (v := 0) hx hb dL_isDone_468 (by decide) ?_
                            refine giast (j := 2) hx hb hK hP hD hS 3 0 rfl rfl (show (2 : Int32) = nI 2 from rfl) (by omega) (by decide) dL_isDone_469 (fun H locs hP hD hS => ?_)
                            have hP : va_P G vwCl (wW T Ad AF ta ca (fa_fill2 (-1) fa 16) (upd ga 2 0) D mny N f g rk rf rg rh) H := hP
                            have hD : va_D (va_A (wW T Ad AF ta ca fa ga D mny N f g rk rf rg rh) s.heap.size) (wW T Ad AF ta ca (fa_fill2 (-1) fa 16) (upd ga 2 0) D mny N f g rk rf rg rh) := hD
                            refine lv_aload_n hx hb dL_isDone_470 rfl (lv_at hl 0 rfl) ?_
                            refine lv_iconst (v := 0) hx hb dL_isDone_471 (by decide) ?_
                            refine gciT (X := wX4 T Ad ta ca (fa_fill2 (-1) fa 16) (upd ga 2 0)) (va_runV (As := [.int 0]) (rest := []) ⟨hx, hb, hml, hown, hts⟩ (cX2_flush_c l hl0 G T Ad AF D mny N f g rk rf rg rh _) (cwV 1 hts gL_isDone_X2_flush rfl rfl rfl (by decide +kernel) ⟨Nat.le_of_ble_eq_true rfl, Nat.le_of_ble_eq_true rfl⟩) ⟨gblind, va_recv hK hP (ci := 2) (q0 := 4) rfl rfl, gpreT (X := wX4 T Ad ta ca (fa_fill2 (-1) fa 16) (upd ga 2 0)) hE hK hP hD hS hA⟩ rfl rfl hl.1 rfl (lv_room (Nat.le_of_ble_eq_true rfl)) dL_isDone_472 ⟨Nat.le_of_ble_eq_true rfl, Nat.le_of_ble_eq_true rfl⟩) hP hD hS hA wC_fst (fun r9 H locs hw hP hD hS => ?_)
                            have hP : va_P G vwCl (wW T Ad AF ta ca (fa_fill2 (-1) fa 16) (upd ga 2 0) D mny N f g (updA rk 0 (fun _ => 0)) rf rg rh) H := hP
                            have hD : va_D (va_A (wW T Ad AF ta ca fa ga D mny N f g rk rf rg rh) s.heap.size) (wW T Ad AF ta ca (fa_fill2 (-1) fa 16) (upd ga 2 0) D mny N f g (updA rk 0 (fun _ => 0)) rf rg rh) := hD
                            subst hw
                            refine lv_iload hx hb dL_isDone_475 (lv_at hl 5 rfl) ?_
                            refine lv_icmp_ne (tgt := 498) hx hb dL_isDone_477 (by decide) (fun c477 => ?_) (fun c477 => ?_)
                            · exact absurd i7.symm c477
                            · skip
                              refine lv_aload_n hx hb dL_isDone_480 rfl (lv_at hl 0 rfl) ?_
                              refine lv_bipush (v := 8) hx hb dL_isDone_481 (by decide) ?_
                              refine lv_iconst (v := 3) hx hb dL_isDone_483 (by decide) ?_
                              refine lv_iconst (v := 0) hx hb dL_isDone_484 (by decide) ?_
                              refine lv_iconst (v := 0) hx hb dL_isDone_485 (by decide) ?_
                              refine gciT (X := wX4 T Ad ta ca (fa_fill2 (-1) fa 16) (upd ga 2 0)) (vx_runSW (As := [.ref (Ad 1), .int 8, .int 3, .int 0, .int 0]) (rest := []) ⟨hx, hb, hml, hown, hts⟩ (cL_does_8_noc l hl0 G T Ad AF D mny N f g (updA rk 0 (fun _ => 0)) rf rg rh 3 0 0 _ (fun h9 => absurd h9 (by decide)) (fun h9 => absurd (h9.symm.trans (show kRes 3 = 1 by decide)) (by decide))) (vx_cwSW 5 hts gL_isDone_L_does rfl rfl rfl (by decide +kernel) ⟨Nat.le_of_ble_eq_true rfl, Nat.le_of_ble_eq_true rfl⟩) ⟨gblind, gpreT (X := wX4 T Ad ta ca (fa_fill2 (-1) fa 16) (upd ga 2 0)) hE hK hP hD hS hA⟩ rfl rfl hl.1 rfl (lv_room (Nat.le_of_ble_eq_true rfl)) dL_isDone_486 ⟨Nat.le_of_ble_eq_true rfl, Nat.le_of_ble_eq_true rfl⟩) hP hD hS hA wC_fst (fun r9 H locs hw hP hD hS => ?_)
                              have hP : va_P G vwCl (wW T Ad AF ta ca (fa_fill2 (-1) fa 16) (upd ga 2 0) D mny N f g (updA rk 0 (fun _ => 0)) rf rg rh) H := hP
                              have hD : va_D (va_A (wW T Ad AF ta ca fa ga D mny N f g rk rf rg rh) s.heap.size) (wW T Ad AF ta ca (fa_fill2 (-1) fa 16) (upd ga 2 0) D mny N f g (updA rk 0 (fun _ => 0)) rf rg rh) := hD
                              subst hw
                              refine gtop (y := (-30)) (wD_30 (show kRes 3 = 1 by decide)) ?_
                              refine lv_bipush (v := (-30)) hx hb dL_isDone_489 (by decide) ?_
                              refine lv_icmp_ne (tgt := 498) hx hb dL_isDone_491 (by decide) (fun c491 => ?_) (fun c491 => ?_)
                              · exact absurd c491 (by decide)
                              · skip
                                refine lv_iconst (v := 1) hx hb dL_isDone_494 (by decide) ?_
                                refine lv_goto (tgt := 499) hx hb dL_isDone_495 (by decide) ?_
                                refine W.widen (k := 16) (n := 96) (Nat.le_of_ble_eq_true rfl) (Nat.le_of_ble_eq_true rfl) ?_
                                have hI9 : INV d a D mny N f (updA rk 0 (fun _ => 0)) rf rg rh ta ca (fa_fill2 (-1) fa 16) (upd ga 2 0) := hI.flush
                                exact W.zret (v := 1) hx hb hr (by decide) (fun w9 ht9 hW => ⟨⟨1, (D, mny, N, f, g, (updA rk 0 (fun _ => 0)), rf, rg, rh, ta, ca, (fa_fill2 (-1) fa 16), (upd ga 2 0)), rfl, ⟨rfl, d, a, by omega, by omega, hI9⟩, gBi ht9 (gfin hP (rfl))⟩, hS.F ht9⟩) hS.2.2 dL_isDone_499
                          · skip
                            have hlt : z < 16 := by
                              rcases Nat.lt_or_ge z 16 with q | q
                              · exact q
                              · exact absurd (show (16 : Int32) ≤ nI z from nI_le (a := 16) q (by omega)) c450
                            refine lv_aload hx hb dL_isDone_453 (lv_at hl 3 rfl) ?_
                            refine lv_iload hx hb dL_isDone_455 (lv_at hl 6 rfl) ?_
                            refine lv_iconst (v := (-1)) hx hb dL_isDone_457 (by decide) ?_
                            refine giast (j := z) hx hb hK hP hD hS 2 0 rfl rfl (show (nI z : Int32) = nI z from rfl) (by omega) (by decide) dL_isDone_458 (fun H locs hP hD hS => ?_)
                            have hP : va_P G vwCl (wW T Ad AF ta ca (upd (fa_fill2 (-1) fa z) z (-1)) ga D mny N f g rk rf rg rh) H := hP
                            have hD : va_D (va_A (wW T Ad AF ta ca fa ga D mny N f g rk rf rg rh) s.heap.size) (wW T Ad AF ta ca (upd (fa_fill2 (-1) fa z) z (-1)) ga D mny N f g rk rf rg rh) := hD
                            refine lv_iinc (v := nI (z + 1)) (lv' := [(14, .int (nI (z + 1))), (0, .ref (Ad 1)), (3, .ref (Ad 5)), (4, .ref (Ad 6)), (5, .ref (Ad 7)), (6, .ref (Ad 8)), (13, .int (ga 2))]) hx hb dL_isDone_459 hl (k := 6) rfl (by first | rfl | exact (nI_add z 1)) (by decide) rfl (fun ls hl => ?_)
                            refine lv_goto (tgt := 446) hx hb dL_isDone_462 (by decide) ?_
                            exact ih446 (z + 1) _ _ _ (by omega) (by omega) (gfin hP (by rw [gfill_up])) (gfinD hD (by rw [gfill_up])) hS (lv_sub hl [1, 2, 3, 4, 5, 6, 0] rfl)
                      exact J446 17 0 _ _ _ (by omega) (by omega) (gfin hP (by rw [fa_fill2_0])) (gfinD hD (by rw [fa_fill2_0])) hS (lv_sub hl [2, 3, 4, 5, 6, 1, 0] rfl)
                  · skip
                    refine lv_iload hx hb dL_isDone_361 (lv_at hl 9 rfl) ?_
                    refine lv_bipush (v := 16) hx hb dL_isDone_363 (by decide) ?_
                    refine lv_icmp_ne (tgt := 416) hx hb dL_isDone_365 (by decide) (fun c365 => ?_) (fun c365 => ?_)
                    · skip
                      have hj16 : j < 16 := by
                        rcases hnj with q9 | q9
                        · omega
                        · exact absurd (congrArg nI q9) c365
                      refine lv_aload_n hx hb dL_isDone_416 rfl (lv_at hl 0 rfl) ?_
                      refine lv_aload_n hx hb dL_isDone_417 rfl (lv_at hl 1 rfl) ?_
                      refine lv_aload hx hb dL_isDone_418 (lv_at hl 2 rfl) ?_
                      refine lv_aload hx hb dL_isDone_420 (lv_at hl 3 rfl) ?_
                      refine lv_aload hx hb dL_isDone_422 (lv_at hl 4 rfl) ?_
                      refine lv_iload hx hb dL_isDone_424 (lv_at hl 9 rfl) ?_
                      refine gciET (X := ([] : va_W)) (va_runS (As := [.ref (Ad 1), .ref (Ad 5), .ref (Ad 6), .ref (Ad 7), .ref (Ad 8), .int (nI j)]) (rest := []) ⟨hx, hb, hml, hown, hts⟩ (kL_isAnswer l hl0 G T Ad AF D mny N f g rk rf rg rh ta ca fa ga j d a _ hI (by omega) (by omega) (by omega)) (va_cwS 6 hts gL_isDone_L_isAnswer rfl rfl rfl (by decide +kernel) ⟨Nat.le_of_ble_eq_true rfl, Nat.le_of_ble_eq_true rfl⟩) ⟨gblind, gpreT (X := ([] : va_W)) hE hK hP hD hS hA⟩ rfl rfl hl.1 rfl (lv_room (Nat.le_of_ble_eq_true rfl)) dL_isDone_426 ⟨Nat.le_of_ble_eq_true rfl, Nat.le_of_ble_eq_true rfl⟩) hP hD hS hA (fun _ => wW_fst) (fun r9 u_6 H locs hw hP hD hS => ?_)
                      obtain ⟨D6, mny6, N6, f6, g6, rk6, rf6, rg6, rh6, ta6, ca6, fa6, ga6⟩ := u_6
                      obtain ⟨hw, hI6⟩ := hw
                      subst hw
                      have hP : va_P G vwCl (wW T Ad AF ta6 ca6 fa6 ga6 D6 mny6 N6 f6 g6 rk6 rf6 rg6 rh6) H := hP
                      have hD : va_D (va_A (wW T Ad AF ta ca fa ga D mny N f g rk rf rg rh) s.heap.size) (wW T Ad AF ta6 ca6 fa6 ga6 D6 mny6 N6 f6 g6 rk6 rf6 rg6 rh6) := hD
                      refine W.widen (k := 16) (n := 96) (Nat.le_of_ble_eq_true rfl) (Nat.le_of_ble_eq_true rfl) ?_
                      exact W.zret (v := 1) hx hb hr (by decide) (fun w9 ht9 hW => ⟨⟨1, (D6, mny6, N6, f6, g6, rk6, rf6, rg6, rh6, ta6, ca6, fa6, ga6), rfl, ⟨rfl, d, a, by omega, by omega, hI6⟩, gBi ht9 (gfin hP (rfl))⟩, hS.F ht9⟩) hS.2.2 dL_isDone_429
                    · skip
                      refine lv_aload_n hx hb dL_isDone_368 rfl (lv_at hl 0 rfl) ?_
                      refine lv_bipush (v := 6) hx hb dL_isDone_369 (by decide) ?_
                      refine lv_iconst (v := 0) hx hb dL_isDone_371 (by decide) ?_
                      refine lv_bipush (v := 16) hx hb dL_isDone_372 (by decide) ?_
                      refine gciT (X := wX4 T Ad ta ca fa ga) (vx_runSW (As := [.ref (Ad 1), .int 6, .int 0, .int 16]) (rest := []) ⟨hx, hb, hml, hown, hts⟩ (cL_asks_6_noc l hl0 G T Ad AF D mny N f g rk rf rg rh 0 0 16 _ (by omega) (fun _ => ⟨rfl, by omega⟩) (fun h9 => absurd h9 (by decide)) (fun h9 => absurd (h9.symm.trans (show kRN 0 16 = 1 by decide)) (by decide))) (vx_cwSW 4 hts gL_isDone_L_asks rfl rfl rfl (by decide +kernel) ⟨Nat.le_of_ble_eq_true rfl, Nat.le_of_ble_eq_true rfl⟩) ⟨gblind, gpreT (X := wX4 T Ad ta ca fa ga) hE hK hP hD hS hA⟩ rfl rfl hl.1 rfl (lv_room (Nat.le_of_ble_eq_true rfl)) dL_isDone_374 ⟨Nat.le_of_ble_eq_true rfl, Nat.le_of_ble_eq_true rfl⟩) hP hD hS hA wC_fst (fun r9 H locs hw hP hD hS => ?_)
                      have hP : va_P G vwCl (wW T Ad AF ta ca fa ga D mny N f g rk rf rg rh) H := hP
                      have hD : va_D (va_A (wW T Ad AF ta ca fa ga D mny N f g rk rf rg rh) s.heap.size) (wW T Ad AF ta ca fa ga D mny N f g rk rf rg rh) := hD
                      subst hw
                      refine gtop (y := (-30)) (wD_30 (show kRN 0 16 = 1 by decide)) ?_
                      refine lv_bipush (v := (-30)) hx hb dL_isDone_377 (by decide) ?_
                      refine lv_icmp_ne (tgt := 412) hx hb dL_isDone_379 (by decide) (fun c379 => ?_) (fun c379 => ?_)
                      · exact absurd c379 (by decide)
                      · skip
                        refine lv_aload_n hx hb dL_isDone_382 rfl (lv_at hl 0 rfl) ?_
                        refine lv_bipush (v := 6) hx hb dL_isDone_383 (by decide) ?_
                        refine lv_iconst (v := 3) hx hb dL_isDone_385 (by decide) ?_
                        refine lv_iconst (v := 0) hx hb dL_isDone_386 (by decide) ?_
                        refine gciT (X := wX4 T Ad ta ca fa ga) (vx_runSW (As := [.ref (Ad 1), .int 6, .int 3, .int 0]) (rest := []) ⟨hx, hb, hml, hown, hts⟩ (cL_asks_6_noc l hl0 G T Ad AF D mny N f g rk rf rg rh 0 3 0 _ (by omega) (fun h9 => absurd h9 (by decide)) (fun _ => ⟨rfl, by omega⟩) (fun h9 => absurd (h9.symm.trans (show kRN 3 0 = 1 by decide)) (by decide))) (vx_cwSW 4 hts gL_isDone_L_asks rfl rfl rfl (by decide +kernel) ⟨Nat.le_of_ble_eq_true rfl, Nat.le_of_ble_eq_true rfl⟩) ⟨gblind, gpreT (X := wX4 T Ad ta ca fa ga) hE hK hP hD hS hA⟩ rfl rfl hl.1 rfl (lv_room (Nat.le_of_ble_eq_true rfl)) dL_isDone_387 ⟨Nat.le_of_ble_eq_true rfl, Nat.le_of_ble_eq_true rfl⟩) hP hD hS hA wC_fst (fun r9 H locs hw hP hD hS => ?_)
                        have hP : va_P G vwCl (wW T Ad AF ta ca fa ga D mny N f g rk rf rg rh) H := hP
                        have hD : va_D (va_A (wW T Ad AF ta ca fa ga D mny N f g rk rf rg rh) s.heap.size) (wW T Ad AF ta ca fa ga D mny N f g rk rf rg rh) := hD
                        subst hw
                        refine gtop (y := (-30)) (wD_30 (show kRN 3 0 = 1 by decide)) ?_
                        refine lv_bipush (v := (-30)) hx hb dL_isDone_390 (by decide) ?_
                        refine lv_icmp_ne (tgt := 412) hx hb dL_isDone_392 (by decide) (fun c392 => ?_) (fun c392 => ?_)
                        · exact absurd c392 (by decide)
                        · skip
                          refine lv_aload_n hx hb dL_isDone_395 rfl (lv_at hl 0 rfl) ?_
                          refine lv_bipush (v := 7) hx hb dL_isDone_396 (by decide) ?_
                          refine lv_iconst (v := (-1)) hx hb dL_isDone_398 (by decide) ?_
                          refine lv_iconst (v := 0) hx hb dL_isDone_399 (by decide) ?_
                          refine gciT (X := wX4 T Ad ta ca fa ga) (vx_runSW (As := [.ref (Ad 1), .int 7, .int (-1), .int 0]) (rest := []) ⟨hx, hb, hml, hown, hts⟩ (cL_asks_7_noc l hl0 G T Ad AF D mny N f g rk rf rg rh 0 (-1) 0 _ (by omega) (fun h9 => absurd h9 (by decide)) (fun _ => ⟨rfl, by omega⟩) (fun h9 => absurd (h9.symm.trans (show kRN (-1) 0 = 1 by decide)) (by decide))) (vx_cwSW 4 hts gL_isDone_L_asks rfl rfl rfl (by decide +kernel) ⟨Nat.le_of_ble_eq_true rfl, Nat.le_of_ble_eq_true rfl⟩) ⟨gblind, gpreT (X := wX4 T Ad ta ca fa ga) hE hK hP hD hS hA⟩ rfl rfl hl.1 rfl (lv_room (Nat.le_of_ble_eq_true rfl)) dL_isDone_400 ⟨Nat.le_of_ble_eq_true rfl, Nat.le_of_ble_eq_true rfl⟩) hP hD hS hA wC_fst (fun r9 H locs hw hP hD hS => ?_)
                          have hP : va_P G vwCl (wW T Ad AF ta ca fa ga D mny N f g rk rf rg rh) H := hP
                          have hD : va_D (va_A (wW T Ad AF ta ca fa ga D mny N f g rk rf rg rh) s.heap.size) (wW T Ad AF ta ca fa ga D mny N f g rk rf rg rh) := hD
                          subst hw
                          refine gtop (y := (-30)) (wD_30 (show kRN (-1) 0 = 1 by decide)) ?_
                          refine lv_bipush (v := (-30)) hx hb dL_isDone_403 (by decide) ?_
                          refine lv_icmp_ne (tgt := 412) hx hb dL_isDone_405 (by decide) (fun c405 => ?_) (fun c405 => ?_)
                          · exact absurd c405 (by decide)
                          · skip
                            refine lv_iconst (v := 1) hx hb dL_isDone_408 (by decide) ?_
                            refine lv_goto (tgt := 429) hx hb dL_isDone_409 (by decide) ?_
                            refine W.widen (k := 16) (n := 96) (Nat.le_of_ble_eq_true rfl) (Nat.le_of_ble_eq_true rfl) ?_
                            exact W.zret (v := 1) hx hb hr (by decide) (fun w9 ht9 hW => ⟨⟨1, (D, mny, N, f, g, rk, rf, rg, rh, ta, ca, fa, ga), rfl, ⟨rfl, d, a, by omega, by omega, hI⟩, gBi ht9 (gfin hP (rfl))⟩, hS.F ht9⟩) hS.2.2 dL_isDone_429
                · skip
                  refine lv_aload_n hx hb dL_isDone_338 rfl (lv_at hl 0 rfl) ?_
                  refine lv_aload_n hx hb dL_isDone_339 rfl (lv_at hl 1 rfl) ?_
                  refine lv_aload hx hb dL_isDone_340 (lv_at hl 2 rfl) ?_
                  refine lv_aload hx hb dL_isDone_342 (lv_at hl 4 rfl) ?_
                  refine lv_iload hx hb dL_isDone_344 (lv_at hl 9 rfl) ?_
                  refine lv_iload hx hb dL_isDone_346 (lv_at hl 7 rfl) ?_
                  refine lv_iconst (v := 2) hx hb dL_isDone_348 (by decide) ?_
                  refine lv_irem hx hb dL_isDone_349 (by decide) ?_
                  refine gtop (y := nI (y3 % 2)) (pk_rem (d := 2) (by omega) (by decide) (by decide)) ?_
                  rcases (show y3 % 2 = 0 ∨ y3 % 2 = 1 by omega) with hy2 | hy2
                  · skip
                    refine gtop (y := 0) (congrArg nI hy2) ?_
                    refine gciET (X := ([] : va_W)) (va_runS (As := [.ref (Ad 1), .ref (Ad 5), .ref (Ad 6), .ref (Ad 8), .int (nI j), .int 0]) (rest := []) ⟨hx, hb, hml, hown, hts⟩ (kL_isDecided_0 l hl0 G T Ad AF D mny N f g rk rf rg rh ta ca fa ga j d a _ hI (by omega) (by omega) hnj) (va_cwS 6 hts gL_isDone_L_isDecided rfl rfl rfl (by decide +kernel) ⟨Nat.le_of_ble_eq_true rfl, Nat.le_of_ble_eq_true rfl⟩) ⟨gblind, gpreT (X := ([] : va_W)) hE hK hP hD hS hA⟩ rfl rfl hl.1 rfl (lv_room (Nat.le_of_ble_eq_true rfl)) dL_isDone_350 ⟨Nat.le_of_ble_eq_true rfl, Nat.le_of_ble_eq_true rfl⟩) hP hD hS hA (fun _ => wW_fst) (fun r9 u_7 H locs hw hP hD hS => ?_)
                    obtain ⟨D7, mny7, N7, f7, g7, rk7, rf7, rg7, rh7, ta7, ca7, fa7, ga7⟩ := u_7
                    obtain ⟨hw, hI7⟩ := hw
                    subst hw
                    have hP : va_P G vwCl (wW T Ad AF ta7 ca7 fa7 ga7 D7 mny7 N7 f7 g7 rk7 rf7 rg7 rh7) H := hP
                    have hD : va_D (va_A (wW T Ad AF ta ca fa ga D mny N f g rk rf rg rh) s.heap.size) (wW T Ad AF ta7 ca7 fa7 ga7 D7 mny7 N7 f7 g7 rk7 rf7 rg7 rh7) := hD
                    refine W.widen (k := 16) (n := 96) (Nat.le_of_ble_eq_true rfl) (Nat.le_of_ble_eq_true rfl) ?_
                    exact W.zret (v := 1) hx hb hr (by decide) (fun w9 ht9 hW => ⟨⟨1, (D7, mny7, N7, f7, g7, rk7, rf7, rg7, rh7, ta7, ca7, fa7, ga7), rfl, ⟨rfl, d, a, by omega, by omega, hI7⟩, gBi ht9 (gfin hP (rfl))⟩, hS.F ht9⟩) hS.2.2 dL_isDone_353
                  · skip
                    refine gtop (y := 1) (congrArg nI hy2) ?_
                    refine gciET (X := ([] : va_W)) (va_runS (As := [.ref (Ad 1), .ref (Ad 5), .ref (Ad 6), .ref (Ad 8), .int (nI j), .int 1]) (rest := []) ⟨hx, hb, hml, hown, hts⟩ (kL_isDecided_1 l hl0 G T Ad AF D mny N f g rk rf rg rh ta ca fa ga j d a _ hI (by omega) (by omega) hnj) (va_cwS 6 hts gL_isDone_L_isDecided rfl rfl rfl (by decide +kernel) ⟨Nat.le_of_ble_eq_true rfl, Nat.le_of_ble_eq_true rfl⟩) ⟨gblind, gpreT (X := ([] : va_W)) hE hK hP hD hS hA⟩ rfl rfl hl.1 rfl (lv_room (Nat.le_of_ble_eq_true rfl)) dL_isDone_350 ⟨Nat.le_of_ble_eq_true rfl, Nat.le_of_ble_eq_true rfl⟩) hP hD hS hA (fun _ => wW_fst) (fun r9 u_8 H locs hw hP hD hS => ?_)
                    obtain ⟨D8, mny8, N8, f8, g8, rk8, rf8, rg8, rh8, ta8, ca8, fa8, ga8⟩ := u_8
                    obtain ⟨hw, hI8⟩ := hw
                    subst hw
                    have hP : va_P G vwCl (wW T Ad AF ta8 ca8 fa8 ga8 D8 mny8 N8 f8 g8 rk8 rf8 rg8 rh8) H := hP
                    have hD : va_D (va_A (wW T Ad AF ta ca fa ga D mny N f g rk rf rg rh) s.heap.size) (wW T Ad AF ta8 ca8 fa8 ga8 D8 mny8 N8 f8 g8 rk8 rf8 rg8 rh8) := hD
                    refine W.widen (k := 16) (n := 96) (Nat.le_of_ble_eq_true rfl) (Nat.le_of_ble_eq_true rfl) ?_
                    exact W.zret (v := 1) hx hb hr (by decide) (fun w9 ht9 hW => ⟨⟨1, (D8, mny8, N8, f8, g8, rk8, rf8, rg8, rh8, ta8, ca8, fa8, ga8), rfl, ⟨rfl, d, a, by omega, by omega, hI8⟩, gBi ht9 (gfin hP (rfl))⟩, hS.F ht9⟩) hS.2.2 dL_isDone_353
              · skip
                refine lv_aload_n hx hb dL_isDone_319 rfl (lv_at hl 0 rfl) ?_
                refine lv_aload_n hx hb dL_isDone_320 rfl (lv_at hl 1 rfl) ?_
                refine lv_aload hx hb dL_isDone_321 (lv_at hl 2 rfl) ?_
                refine lv_iload hx hb dL_isDone_323 (lv_at hl 8 rfl) ?_
                refine lv_iload hx hb dL_isDone_325 (lv_at hl 9 rfl) ?_
                refine gciET (X := ([] : va_W)) (va_runS (As := [.ref (Ad 1), .ref (Ad 5), .ref (Ad 6), .int (nI i), .int (nI j)]) (rest := []) ⟨hx, hb, hml, hown, hts⟩ (kL_isDisputed l hl0 G T Ad AF D mny N f g rk rf rg rh ta ca fa ga i j d a _ hI (by omega) (by omega) hi7 hnj) (va_cwS 5 hts gL_isDone_L_isDisputed rfl rfl rfl (by decide +kernel) ⟨Nat.le_of_ble_eq_true rfl, Nat.le_of_ble_eq_true rfl⟩) ⟨gblind, gpreT (X := ([] : va_W)) hE hK hP hD hS hA⟩ rfl rfl hl.1 rfl (lv_room (Nat.le_of_ble_eq_true rfl)) dL_isDone_327 ⟨Nat.le_of_ble_eq_true rfl, Nat.le_of_ble_eq_true rfl⟩) hP hD hS hA (fun _ => wW_fst) (fun r9 u_9 H locs hw hP hD hS => ?_)
                obtain ⟨D9, mny9, N9, f9, g9, rk9, rf9, rg9, rh9, ta9, ca9, fa9, ga9⟩ := u_9
                obtain ⟨hw, hI9⟩ := hw
                subst hw
                have hP : va_P G vwCl (wW T Ad AF ta9 ca9 fa9 ga9 D9 mny9 N9 f9 g9 rk9 rf9 rg9 rh9) H := hP
                have hD : va_D (va_A (wW T Ad AF ta ca fa ga D mny N f g rk rf rg rh) s.heap.size) (wW T Ad AF ta9 ca9 fa9 ga9 D9 mny9 N9 f9 g9 rk9 rf9 rg9 rh9) := hD
                refine W.widen (k := 16) (n := 96) (Nat.le_of_ble_eq_true rfl) (Nat.le_of_ble_eq_true rfl) ?_
                exact W.zret (v := 1) hx hb hr (by decide) (fun w9 ht9 hW => ⟨⟨1, (D9, mny9, N9, f9, g9, rk9, rf9, rg9, rh9, ta9, ca9, fa9, ga9), rfl, ⟨rfl, d, a, by omega, by omega, hI9⟩, gBi ht9 (gfin hP (rfl))⟩, hS.F ht9⟩) hS.2.2 dL_isDone_330
            · skip
              refine lv_aload_n hx hb dL_isDone_277 rfl (lv_at hl 0 rfl) ?_
              refine lv_aload_n hx hb dL_isDone_278 rfl (lv_at hl 1 rfl) ?_
              refine lv_aload hx hb dL_isDone_279 (lv_at hl 2 rfl) ?_
              refine lv_iload hx hb dL_isDone_281 (lv_at hl 9 rfl) ?_
              refine lv_iload hx hb dL_isDone_283 (lv_at hl 7 rfl) ?_
              refine lv_bipush (v := 30) hx hb dL_isDone_285 (by decide) ?_
              refine lv_irem hx hb dL_isDone_287 (by decide) ?_
              refine gtop (y := nI (y3 % 30)) (pk_rem (d := 30) (by omega) (by decide) (by decide)) ?_
              refine lv_if_ne (tgt := 297) hx hb dL_isDone_288 (by decide) (fun c288 => ?_) (fun c288 => ?_)
              · skip
                refine lv_iload hx hb dL_isDone_297 (lv_at hl 7 rfl) ?_
                refine lv_sipush (v := 1000) hx hb dL_isDone_299 (by decide) ?_
                refine lv_irem hx hb dL_isDone_302 (by decide) ?_
                refine gtop (y := nI (y3 % 1000)) (pk_rem (d := 1000) (by omega) (by decide) (by decide)) ?_
                refine lv_iload hx hb dL_isDone_303 (lv_at hl 6 rfl) ?_
                refine lv_bipush (v := 52) hx hb dL_isDone_305 (by decide) ?_
                refine lv_irem hx hb dL_isDone_307 (by decide) ?_
                refine gtop (y := nI (y1 % 52)) (pk_rem (d := 52) (by omega) (by decide) (by decide)) ?_
                refine gciET (X := ([] : va_W)) (va_runS (As := [.ref (Ad 1), .ref (Ad 5), .ref (Ad 6), .int (nI j), .int (nI (y3 % 1000)), .int (nI (y1 % 52))]) (rest := []) ⟨hx, hb, hml, hown, hts⟩ (kL_isRecord l hl0 G T Ad AF D mny N f g rk rf rg rh ta ca fa ga j (y3 % 1000) (y1 % 52) d a _ hI (by omega) (by omega) hnj (by omega) (by omega)) (va_cwS 6 hts gL_isDone_L_isRecord rfl rfl rfl (by decide +kernel) ⟨Nat.le_of_ble_eq_true rfl, Nat.le_of_ble_eq_true rfl⟩) ⟨gblind, gpreT (X := ([] : va_W)) hE hK hP hD hS hA⟩ rfl rfl hl.1 rfl (lv_room (Nat.le_of_ble_eq_true rfl)) dL_isDone_308 ⟨Nat.le_of_ble_eq_true rfl, Nat.le_of_ble_eq_true rfl⟩) hP hD hS hA (fun _ => wW_fst) (fun r9 u_10 H locs hw hP hD hS => ?_)
                obtain ⟨D10, mny10, N10, f10, g10, rk10, rf10, rg10, rh10, ta10, ca10, fa10, ga10⟩ := u_10
                obtain ⟨hw, hI10⟩ := hw
                subst hw
                have hP : va_P G vwCl (wW T Ad AF ta10 ca10 fa10 ga10 D10 mny10 N10 f10 g10 rk10 rf10 rg10 rh10) H := hP
                have hD : va_D (va_A (wW T Ad AF ta ca fa ga D mny N f g rk rf rg rh) s.heap.size) (wW T Ad AF ta10 ca10 fa10 ga10 D10 mny10 N10 f10 g10 rk10 rf10 rg10 rh10) := hD
                refine W.widen (k := 16) (n := 96) (Nat.le_of_ble_eq_true rfl) (Nat.le_of_ble_eq_true rfl) ?_
                exact W.zret (v := 1) hx hb hr (by decide) (fun w9 ht9 hW => ⟨⟨1, (D10, mny10, N10, f10, g10, rk10, rf10, rg10, rh10, ta10, ca10, fa10, ga10), rfl, ⟨rfl, d, a, by omega, by omega, hI10⟩, gBi ht9 (gfin hP (rfl))⟩, hS.F ht9⟩) hS.2.2 dL_isDone_311
              · skip
                refine lv_sipush (v := 1000) hx hb dL_isDone_291 (by decide) ?_
                refine lv_goto (tgt := 303) hx hb dL_isDone_294 (by decide) ?_
                refine lv_iload hx hb dL_isDone_303 (lv_at hl 6 rfl) ?_
                refine lv_bipush (v := 52) hx hb dL_isDone_305 (by decide) ?_
                refine lv_irem hx hb dL_isDone_307 (by decide) ?_
                refine gtop (y := nI (y1 % 52)) (pk_rem (d := 52) (by omega) (by decide) (by decide)) ?_
                refine gciET (X := ([] : va_W)) (va_runS (As := [.ref (Ad 1), .ref (Ad 5), .ref (Ad 6), .int (nI j), .int 1000, .int (nI (y1 % 52))]) (rest := []) ⟨hx, hb, hml, hown, hts⟩ (kL_isRecord l hl0 G T Ad AF D mny N f g rk rf rg rh ta ca fa ga j 1000 (y1 % 52) d a _ hI (by omega) (by omega) hnj (by omega) (by omega)) (va_cwS 6 hts gL_isDone_L_isRecord rfl rfl rfl (by decide +kernel) ⟨Nat.le_of_ble_eq_true rfl, Nat.le_of_ble_eq_true rfl⟩) ⟨gblind, gpreT (X := ([] : va_W)) hE hK hP hD hS hA⟩ rfl rfl hl.1 rfl (lv_room (Nat.le_of_ble_eq_true rfl)) dL_isDone_308 ⟨Nat.le_of_ble_eq_true rfl, Nat.le_of_ble_eq_true rfl⟩) hP hD hS hA (fun _ => wW_fst) (fun r9 u_11 H locs hw hP hD hS => ?_)
                obtain ⟨D11, mny11, N11, f11, g11, rk11, rf11, rg11, rh11, ta11, ca11, fa11, ga11⟩ := u_11
                obtain ⟨hw, hI11⟩ := hw
                subst hw
                have hP : va_P G vwCl (wW T Ad AF ta11 ca11 fa11 ga11 D11 mny11 N11 f11 g11 rk11 rf11 rg11 rh11) H := hP
                have hD : va_D (va_A (wW T Ad AF ta ca fa ga D mny N f g rk rf rg rh) s.heap.size) (wW T Ad AF ta11 ca11 fa11 ga11 D11 mny11 N11 f11 g11 rk11 rf11 rg11 rh11) := hD
                refine W.widen (k := 16) (n := 96) (Nat.le_of_ble_eq_true rfl) (Nat.le_of_ble_eq_true rfl) ?_
                exact W.zret (v := 1) hx hb hr (by decide) (fun w9 ht9 hW => ⟨⟨1, (D11, mny11, N11, f11, g11, rk11, rf11, rg11, rh11, ta11, ca11, fa11, ga11), rfl, ⟨rfl, d, a, by omega, by omega, hI11⟩, gBi ht9 (gfin hP (rfl))⟩, hS.F ht9⟩) hS.2.2 dL_isDone_311
          · skip
            refine lv_aload_n hx hb dL_isDone_258 rfl (lv_at hl 0 rfl) ?_
            refine lv_aload_n hx hb dL_isDone_259 rfl (lv_at hl 1 rfl) ?_
            refine lv_aload hx hb dL_isDone_260 (lv_at hl 2 rfl) ?_
            refine lv_aload hx hb dL_isDone_262 (lv_at hl 4 rfl) ?_
            refine lv_iload hx hb dL_isDone_264 (lv_at hl 9 rfl) ?_
            refine gciET (X := ([] : va_W)) (va_runS (As := [.ref (Ad 1), .ref (Ad 5), .ref (Ad 6), .ref (Ad 8), .int (nI j)]) (rest := []) ⟨hx, hb, hml, hown, hts⟩ (kL_isRedeemed l hl0 G T Ad AF D mny N f g rk rf rg rh ta ca fa ga j d a _ hI (by omega) (by omega) hnj) (va_cwS 5 hts gL_isDone_L_isRedeemed rfl rfl rfl (by decide +kernel) ⟨Nat.le_of_ble_eq_true rfl, Nat.le_of_ble_eq_true rfl⟩) ⟨gblind, gpreT (X := ([] : va_W)) hE hK hP hD hS hA⟩ rfl rfl hl.1 rfl (lv_room (Nat.le_of_ble_eq_true rfl)) dL_isDone_266 ⟨Nat.le_of_ble_eq_true rfl, Nat.le_of_ble_eq_true rfl⟩) hP hD hS hA (fun _ => wW_fst) (fun r9 u_12 H locs hw hP hD hS => ?_)
            obtain ⟨D12, mny12, N12, f12, g12, rk12, rf12, rg12, rh12, ta12, ca12, fa12, ga12⟩ := u_12
            obtain ⟨hw, hI12⟩ := hw
            subst hw
            have hP : va_P G vwCl (wW T Ad AF ta12 ca12 fa12 ga12 D12 mny12 N12 f12 g12 rk12 rf12 rg12 rh12) H := hP
            have hD : va_D (va_A (wW T Ad AF ta ca fa ga D mny N f g rk rf rg rh) s.heap.size) (wW T Ad AF ta12 ca12 fa12 ga12 D12 mny12 N12 f12 g12 rk12 rf12 rg12 rh12) := hD
            refine W.widen (k := 16) (n := 96) (Nat.le_of_ble_eq_true rfl) (Nat.le_of_ble_eq_true rfl) ?_
            exact W.zret (v := 1) hx hb hr (by decide) (fun w9 ht9 hW => ⟨⟨1, (D12, mny12, N12, f12, g12, rk12, rf12, rg12, rh12, ta12, ca12, fa12, ga12), rfl, ⟨rfl, d, a, by omega, by omega, hI12⟩, gBi ht9 (gfin hP (rfl))⟩, hS.F ht9⟩) hS.2.2 dL_isDone_269
        · skip
          refine lv_aload_n hx hb dL_isDone_236 rfl (lv_at hl 0 rfl) ?_
          refine lv_aload_n hx hb dL_isDone_237 rfl (lv_at hl 1 rfl) ?_
          refine lv_aload hx hb dL_isDone_238 (lv_at hl 4 rfl) ?_
          refine lv_iload hx hb dL_isDone_240 (lv_at hl 9 rfl) ?_
          refine lv_iload hx hb dL_isDone_242 (lv_at hl 7 rfl) ?_
          refine lv_bipush (v := 7) hx hb dL_isDone_244 (by decide) ?_
          refine lv_irem hx hb dL_isDone_246 (by decide) ?_
          refine gtop (y := nI (y3 % 7)) (pk_rem (d := 7) (by omega) (by decide) (by decide)) ?_
          refine gciET (X := ([] : va_W)) (va_runS (As := [.ref (Ad 1), .ref (Ad 5), .ref (Ad 8), .int (nI j), .int (nI (y3 % 7))]) (rest := []) ⟨hx, hb, hml, hown, hts⟩ (kL_isRenewed l hl0 G T Ad AF D mny N f g rk rf rg rh ta ca fa ga j (y3 % 7) d a _ hI (by omega) (by omega) hnj (by omega)) (va_cwS 5 hts gL_isDone_L_isRenewed rfl rfl rfl (by decide +kernel) ⟨Nat.le_of_ble_eq_true rfl, Nat.le_of_ble_eq_true rfl⟩) ⟨gblind, gpreT (X := ([] : va_W)) hE hK hP hD hS hA⟩ rfl rfl hl.1 rfl (lv_room (Nat.le_of_ble_eq_true rfl)) dL_isDone_247 ⟨Nat.le_of_ble_eq_true rfl, Nat.le_of_ble_eq_true rfl⟩) hP hD hS hA (fun _ => wW_fst) (fun r9 u_13 H locs hw hP hD hS => ?_)
          obtain ⟨D13, mny13, N13, f13, g13, rk13, rf13, rg13, rh13, ta13, ca13, fa13, ga13⟩ := u_13
          obtain ⟨hw, hI13⟩ := hw
          subst hw
          have hP : va_P G vwCl (wW T Ad AF ta13 ca13 fa13 ga13 D13 mny13 N13 f13 g13 rk13 rf13 rg13 rh13) H := hP
          have hD : va_D (va_A (wW T Ad AF ta ca fa ga D mny N f g rk rf rg rh) s.heap.size) (wW T Ad AF ta13 ca13 fa13 ga13 D13 mny13 N13 f13 g13 rk13 rf13 rg13 rh13) := hD
          refine W.widen (k := 16) (n := 96) (Nat.le_of_ble_eq_true rfl) (Nat.le_of_ble_eq_true rfl) ?_
          exact W.zret (v := 1) hx hb hr (by decide) (fun w9 ht9 hW => ⟨⟨1, (D13, mny13, N13, f13, g13, rk13, rf13, rg13, rh13, ta13, ca13, fa13, ga13), rfl, ⟨rfl, d, a, by omega, by omega, hI13⟩, gBi ht9 (gfin hP (rfl))⟩, hS.F ht9⟩) hS.2.2 dL_isDone_250
      · skip
        refine lv_aload_n hx hb dL_isDone_195 rfl (lv_at hl 0 rfl) ?_
        refine lv_aload_n hx hb dL_isDone_196 rfl (lv_at hl 1 rfl) ?_
        refine lv_aload hx hb dL_isDone_197 (lv_at hl 4 rfl) ?_
        refine lv_iload hx hb dL_isDone_199 (lv_at hl 8 rfl) ?_
        refine lv_iload hx hb dL_isDone_201 (lv_at hl 9 rfl) ?_
        refine lv_iload hx hb dL_isDone_203 (lv_at hl 7 rfl) ?_
        refine lv_bipush (v := 30) hx hb dL_isDone_205 (by decide) ?_
        refine lv_irem hx hb dL_isDone_207 (by decide) ?_
        refine gtop (y := nI (y3 % 30)) (pk_rem (d := 30) (by omega) (by decide) (by decide)) ?_
        refine lv_if_ne (tgt := 216) hx hb dL_isDone_208 (by decide) (fun c208 => ?_) (fun c208 => ?_)
        · skip
          refine lv_bipush (v := 10) hx hb dL_isDone_216 (by decide) ?_
          refine lv_iload hx hb dL_isDone_218 (lv_at hl 7 rfl) ?_
          refine lv_sipush (v := 300) hx hb dL_isDone_220 (by decide) ?_
          refine lv_irem hx hb dL_isDone_223 (by decide) ?_
          refine gtop (y := nI (y3 % 300)) (pk_rem (d := 300) (by omega) (by decide) (by decide)) ?_
          refine lv_iadd hx hb dL_isDone_224 ?_
          refine gtop (y := nI (10 + (y3 % 300))) (nI_add 10 (y3 % 300)) ?_
          refine gciET (X := ([] : va_W)) (va_runS (As := [.ref (Ad 1), .ref (Ad 5), .ref (Ad 8), .int (nI i), .int (nI j), .int (nI (10 + (y3 % 300)))]) (rest := []) ⟨hx, hb, hml, hown, hts⟩ (kL_isBid l hl0 G T Ad AF D mny N f g rk rf rg rh ta ca fa ga i j (10 + (y3 % 300)) d a _ hI (by omega) (by omega) hi7 hnj (by omega)) (va_cwS 6 hts gL_isDone_L_isBid rfl rfl rfl (by decide +kernel) ⟨Nat.le_of_ble_eq_true rfl, Nat.le_of_ble_eq_true rfl⟩) ⟨gblind, gpreT (X := ([] : va_W)) hE hK hP hD hS hA⟩ rfl rfl hl.1 rfl (lv_room (Nat.le_of_ble_eq_true rfl)) dL_isDone_225 ⟨Nat.le_of_ble_eq_true rfl, Nat.le_of_ble_eq_true rfl⟩) hP hD hS hA (fun _ => wW_fst) (fun r9 u_14 H locs hw hP hD hS => ?_)
          obtain ⟨D14, mny14, N14, f14, g14, rk14, rf14, rg14, rh14, ta14, ca14, fa14, ga14⟩ := u_14
          obtain ⟨hw, hI14⟩ := hw
          subst hw
          have hP : va_P G vwCl (wW T Ad AF ta14 ca14 fa14 ga14 D14 mny14 N14 f14 g14 rk14 rf14 rg14 rh14) H := hP
          have hD : va_D (va_A (wW T Ad AF ta ca fa ga D mny N f g rk rf rg rh) s.heap.size) (wW T Ad AF ta14 ca14 fa14 ga14 D14 mny14 N14 f14 g14 rk14 rf14 rg14 rh14) := hD
          refine W.widen (k := 16) (n := 96) (Nat.le_of_ble_eq_true rfl) (Nat.le_of_ble_eq_true rfl) ?_
          exact W.zret (v := 1) hx hb hr (by decide) (fun w9 ht9 hW => ⟨⟨1, (D14, mny14, N14, f14, g14, rk14, rf14, rg14, rh14, ta14, ca14, fa14, ga14), rfl, ⟨rfl, d, a, by omega, by omega, hI14⟩, gBi ht9 (gfin hP (rfl))⟩, hS.F ht9⟩) hS.2.2 dL_isDone_228
        · skip
          refine lv_bipush (v := 9) hx hb dL_isDone_211 (by decide) ?_
          refine lv_goto (tgt := 225) hx hb dL_isDone_213 (by decide) ?_
          refine gciET (X := ([] : va_W)) (va_runS (As := [.ref (Ad 1), .ref (Ad 5), .ref (Ad 8), .int (nI i), .int (nI j), .int 9]) (rest := []) ⟨hx, hb, hml, hown, hts⟩ (kL_isBid l hl0 G T Ad AF D mny N f g rk rf rg rh ta ca fa ga i j 9 d a _ hI (by omega) (by omega) hi7 hnj (by omega)) (va_cwS 6 hts gL_isDone_L_isBid rfl rfl rfl (by decide +kernel) ⟨Nat.le_of_ble_eq_true rfl, Nat.le_of_ble_eq_true rfl⟩) ⟨gblind, gpreT (X := ([] : va_W)) hE hK hP hD hS hA⟩ rfl rfl hl.1 rfl (lv_room (Nat.le_of_ble_eq_true rfl)) dL_isDone_225 ⟨Nat.le_of_ble_eq_true rfl, Nat.le_of_ble_eq_true rfl⟩) hP hD hS hA (fun _ => wW_fst) (fun r9 u_15 H locs hw hP hD hS => ?_)
          obtain ⟨D15, mny15, N15, f15, g15, rk15, rf15, rg15, rh15, ta15, ca15, fa15, ga15⟩ := u_15
          obtain ⟨hw, hI15⟩ := hw
          subst hw
          have hP : va_P G vwCl (wW T Ad AF ta15 ca15 fa15 ga15 D15 mny15 N15 f15 g15 rk15 rf15 rg15 rh15) H := hP
          have hD : va_D (va_A (wW T Ad AF ta ca fa ga D mny N f g rk rf rg rh) s.heap.size) (wW T Ad AF ta15 ca15 fa15 ga15 D15 mny15 N15 f15 g15 rk15 rf15 rg15 rh15) := hD
          refine W.widen (k := 16) (n := 96) (Nat.le_of_ble_eq_true rfl) (Nat.le_of_ble_eq_true rfl) ?_
          exact W.zret (v := 1) hx hb hr (by decide) (fun w9 ht9 hW => ⟨⟨1, (D15, mny15, N15, f15, g15, rk15, rf15, rg15, rh15, ta15, ca15, fa15, ga15), rfl, ⟨rfl, d, a, by omega, by omega, hI15⟩, gBi ht9 (gfin hP (rfl))⟩, hS.F ht9⟩) hS.2.2 dL_isDone_228
    · skip
      have J114 : ∀ (x : Nat) (H : Heap) (locs : List Loc) (ls : Array Slot), (x = 100001 ∨ (1 ≤ x ∧ x ≤ 400)) → va_P G vwCl (wW T Ad AF ta ca fa ga D mny N f g rk rf rg rh) H → va_D (va_A (wW T Ad AF ta ca fa ga D mny N f g rk rf rg rh) s.heap.size) (wW T Ad AF ta ca fa ga D mny N f g rk rf rg rh) → va_S (va_A (wW T Ad AF ta ca fa ga D mny N f g rk rf rg rh) s.heap.size) s.heap H locs → lv_has ls 16 [(0, .ref (Ad 1)), (3, .ref (Ad 5)), (4, .ref (Ad 6)), (5, .ref (Ad 7)), (6, .ref (Ad 8)), (11, .int (nI i)), (13, .int (nI x))] → W p l e (headSpec wsL_isDone ({ frames := 10, cells := 16, slots := 96, locals := 183 } : Room)).room s m ([.ref (Ad 1), .ref b, .int (nI k), .ref (Ad 5), .ref (Ad 6), .ref (Ad 7), .ref (Ad 8)] : List Value).toArray below meth c H locs 0 0 (MQ below (QL_isDone G T b L xs Ad AF D mny N f g rk rf rg rh ta ca fa ga k d a s.heap.size) ([.ref (Ad 1), .ref b, .int (nI k), .ref (Ad 5), .ref (Ad 6), .ref (Ad 7), .ref (Ad 8)] : List Value).toArray s 16 96 (va_A (wW T Ad AF ta ca fa ga D mny N f g rk rf rg rh) s.heap.size)) (F0 m 114 ls []) := by
        intro x H locs ls hx0 hP hD hS hl
        refine lv_iload hx hb dL_isDone_114 (lv_at hl 5 rfl) ?_
        refine lv_bipush (v := 6) hx hb dL_isDone_116 (by decide) ?_
        refine lv_icmp_ne (tgt := 126) hx hb dL_isDone_118 (by decide) (fun c118 => ?_) (fun c118 => ?_)
        · skip
          have hi6 : i < 6 := by
            rcases (show i < 6 ∨ i = 6 by omega) with q9 | q9
            · exact q9
            · exact absurd (congrArg nI q9) c118
          refine lv_iload hx hb dL_isDone_126 (lv_at hl 6 rfl) ?_
          refine lv_ldc (v := 100000) hx hb hown (hts (.constant RL 86 100000) (by decide +kernel)) dL_isDone_128 ?_
          refine lv_icmp_le (tgt := 138) hx hb dL_isDone_130 (by decide) (fun c130 => ?_) (fun c130 => ?_)
          · skip
            have hx9 : x ≤ 100000 := Nat.not_lt.mp (fun q9 => nI_ge (a := 100000) q9 (by omega) c130)
            refine lv_aload_n hx hb dL_isDone_138 rfl (lv_at hl 0 rfl) ?_
            refine lv_iload hx hb dL_isDone_139 (lv_at hl 5 rfl) ?_
            refine gciT (X := wX4 T Ad ta ca fa ga) (va_runV (As := [.int (nI i)]) (rest := []) ⟨hx, hb, hml, hown, hts⟩ (cX2_funds_c l hl0 G T Ad AF D mny N f g rk rf rg rh i _ (by omega)) (cwV 1 hts gL_isDone_X2_funds rfl rfl rfl (by decide +kernel) ⟨Nat.le_of_ble_eq_true rfl, Nat.le_of_ble_eq_true rfl⟩) ⟨gblind, va_recv hK hP (ci := 2) (q0 := 4) rfl rfl, gpreT (X := wX4 T Ad ta ca fa ga) hE hK hP hD hS hA⟩ rfl rfl hl.1 rfl (lv_room (Nat.le_of_ble_eq_true rfl)) dL_isDone_141 ⟨Nat.le_of_ble_eq_true rfl, Nat.le_of_ble_eq_true rfl⟩) hP hD hS hA wC_fst (fun r9 H locs hw hP hD hS => ?_)
            have hP : va_P G vwCl (wW T Ad AF ta ca fa ga D mny N f g rk rf rg rh) H := hP
            have hD : va_D (va_A (wW T Ad AF ta ca fa ga D mny N f g rk rf rg rh) s.heap.size) (wW T Ad AF ta ca fa ga D mny N f g rk rf rg rh) := hD
            subst hw
            refine gtop (y := nI (m9 i)) (j2 i hi6) ?_
            refine lv_iload hx hb dL_isDone_144 (lv_at hl 6 rfl) ?_
            refine lv_iadd hx hb dL_isDone_146 ?_
            refine gtop (y := nI ((m9 i) + x)) (nI_add (m9 i) x) ?_
            refine lv_istore (lv' := [(14, .int (nI ((m9 i) + x))), (0, .ref (Ad 1)), (3, .ref (Ad 5)), (4, .ref (Ad 6)), (5, .ref (Ad 7)), (6, .ref (Ad 8)), (11, .int (nI i)), (13, .int (nI x))]) hx hb dL_isDone_147 hl (by decide) rfl (fun ls hl => ?_)
            refine lv_aload hx hb dL_isDone_149 (lv_at hl 5 rfl) ?_
            refine lv_iconst (v := 1) hx hb dL_isDone_151 (by decide) ?_
            refine lv_dup2_11 hx hb dL_isDone_152 rfl rfl ?_
            refine giald (j := 1) hx hb hK hP 3 0 rfl rfl (show (1 : Int32) = nI 1 from rfl) (by omega) (by decide) dL_isDone_153 ?_
            refine gtop (y := nI a) i4 ?_
            refine lv_iload hx hb dL_isDone_154 (lv_at hl 0 rfl) ?_
            refine lv_if_le (tgt := 164) hx hb dL_isDone_156 (by decide) (fun c156 => ?_) (fun c156 => ?_)
            · exact absurd c156 (nI_nle (by omega) (by have := hm9 i hi6; omega))
            · skip
              refine lv_iload hx hb dL_isDone_159 (lv_at hl 7 rfl) ?_
              refine lv_goto (tgt := 165) hx hb dL_isDone_161 (by decide) ?_
              refine lv_iadd hx hb dL_isDone_165 ?_
              refine gtop (y := nI (a + x)) (nI_add a x) ?_
              refine giast (j := 1) hx hb hK hP hD hS 3 0 rfl rfl (show (1 : Int32) = nI 1 from rfl) (by omega) (by decide) dL_isDone_166 (fun H locs hP hD hS => ?_)
              have hP : va_P G vwCl (wW T Ad AF ta ca fa (upd ga 1 (nI (a + x))) D mny N f g rk rf rg rh) H := hP
              have hD : va_D (va_A (wW T Ad AF ta ca fa ga D mny N f g rk rf rg rh) s.heap.size) (wW T Ad AF ta ca fa (upd ga 1 (nI (a + x))) D mny N f g rk rf rg rh) := hD
              refine lv_aload_n hx hb dL_isDone_167 rfl (lv_at hl 1 rfl) ?_
              refine lv_iconst (v := 0) hx hb dL_isDone_168 (by decide) ?_
              refine lv_iload hx hb dL_isDone_169 (lv_at hl 6 rfl) ?_
              refine lv_iload hx hb dL_isDone_171 (lv_at hl 7 rfl) ?_
              refine lv_iconst (v := 0) hx hb dL_isDone_173 (by decide) ?_
              refine gciT (X := wX4 T Ad ta ca fa (upd ga 1 (nI (a + x)))) (vx_runSW (As := [.ref (Ad 1), .int 0, .int (nI i), .int (nI x), .int 0]) (rest := []) ⟨hx, hb, hml, hown, hts⟩ (cL_does_0_okc l hl0 G T Ad AF D mny N f g rk rf rg rh i (nI x) 0 _ (by omega) (by rw [kDep_n (by omega) (by omega), if_pos hi6, if_pos (by omega)])) (vx_cwSW 5 hts gL_isDone_L_does rfl rfl rfl (by decide +kernel) ⟨Nat.le_of_ble_eq_true rfl, Nat.le_of_ble_eq_true rfl⟩) ⟨gblind, gpreT (X := wX4 T Ad ta ca fa (upd ga 1 (nI (a + x)))) hE hK hP hD hS hA⟩ rfl rfl hl.1 rfl (lv_room (Nat.le_of_ble_eq_true rfl)) dL_isDone_174 ⟨Nat.le_of_ble_eq_true rfl, Nat.le_of_ble_eq_true rfl⟩) hP hD hS hA wC_fst (fun r9 H locs hw hP hD hS => ?_)
              have hP : va_P G vwCl (wW T Ad AF ta ca fa (upd ga 1 (nI (a + x))) D (upd mny i (mny i + (nI x))) N f g rk rf rg rh) H := hP
              have hD : va_D (va_A (wW T Ad AF ta ca fa ga D mny N f g rk rf rg rh) s.heap.size) (wW T Ad AF ta ca fa (upd ga 1 (nI (a + x))) D (upd mny i (mny i + (nI x))) N f g rk rf rg rh) := hD
              subst hw
              refine gtop (y := nI ((m9 i) + x)) (by rw [j2 i hi6, nI_add]) ?_
              refine lv_iload hx hb dL_isDone_177 (lv_at hl 0 rfl) ?_
              refine lv_icmp_ne (tgt := 186) hx hb dL_isDone_179 (by decide) (fun c179 => ?_) (fun c179 => ?_)
              · exact absurd rfl c179
              · skip
                refine lv_iconst (v := 1) hx hb dL_isDone_182 (by decide) ?_
                refine lv_goto (tgt := 187) hx hb dL_isDone_183 (by decide) ?_
                refine W.widen (k := 16) (n := 96) (Nat.le_of_ble_eq_true rfl) (Nat.le_of_ble_eq_true rfl) ?_
                have hI9 : INV d (a + x) D (upd mny i (mny i + (nI x))) N f rk rf rg rh ta ca fa (upd ga 1 (nI (a + x))) := INV.deposit hI hi6 j1 j2 j3
                exact W.zret (v := 1) hx hb hr (by decide) (fun w9 ht9 hW => ⟨⟨1, (D, (upd mny i (mny i + (nI x))), N, f, g, rk, rf, rg, rh, ta, ca, fa, (upd ga 1 (nI (a + x)))), rfl, ⟨rfl, d, (a + x), by omega, by omega, hI9⟩, gBi ht9 (gfin hP (rfl))⟩, hS.F ht9⟩) hS.2.2 dL_isDone_187
          · skip
            have hx9 : 100000 < x := Nat.not_le.mp (fun q9 => c130 (nI_le (b := 100000) q9 (by omega)))
            refine lv_bipush (v := (-20)) hx hb dL_isDone_133 (by decide) ?_
            refine lv_goto (tgt := 147) hx hb dL_isDone_135 (by decide) ?_
            refine lv_istore (lv' := [(14, .int (-20)), (0, .ref (Ad 1)), (3, .ref (Ad 5)), (4, .ref (Ad 6)), (5, .ref (Ad 7)), (6, .ref (Ad 8)), (11, .int (nI i)), (13, .int (nI x))]) hx hb dL_isDone_147 hl (by decide) rfl (fun ls hl => ?_)
            refine lv_aload hx hb dL_isDone_149 (lv_at hl 5 rfl) ?_
            refine lv_iconst (v := 1) hx hb dL_isDone_151 (by decide) ?_
            refine lv_dup2_11 hx hb dL_isDone_152 rfl rfl ?_
            refine giald (j := 1) hx hb hK hP 3 0 rfl rfl (show (1 : Int32) = nI 1 from rfl) (by omega) (by decide) dL_isDone_153 ?_
            refine gtop (y := nI a) i4 ?_
            refine lv_iload hx hb dL_isDone_154 (lv_at hl 0 rfl) ?_
            refine lv_if_le (tgt := 164) hx hb dL_isDone_156 (by decide) (fun c156 => ?_) (fun c156 => ?_)
            · skip
              refine lv_iconst (v := 0) hx hb dL_isDone_164 (by decide) ?_
              refine lv_iadd hx hb dL_isDone_165 ?_
              refine gtop (y := nI (a + 0)) (nI_add a 0) ?_
              refine giast (j := 1) hx hb hK hP hD hS 3 0 rfl rfl (show (1 : Int32) = nI 1 from rfl) (by omega) (by decide) dL_isDone_166 (fun H locs hP hD hS => ?_)
              have hP : va_P G vwCl (wW T Ad AF ta ca fa (upd ga 1 (nI (a + 0))) D mny N f g rk rf rg rh) H := hP
              have hD : va_D (va_A (wW T Ad AF ta ca fa ga D mny N f g rk rf rg rh) s.heap.size) (wW T Ad AF ta ca fa (upd ga 1 (nI (a + 0))) D mny N f g rk rf rg rh) := hD
              refine lv_aload_n hx hb dL_isDone_167 rfl (lv_at hl 1 rfl) ?_
              refine lv_iconst (v := 0) hx hb dL_isDone_168 (by decide) ?_
              refine lv_iload hx hb dL_isDone_169 (lv_at hl 6 rfl) ?_
              refine lv_iload hx hb dL_isDone_171 (lv_at hl 7 rfl) ?_
              refine lv_iconst (v := 0) hx hb dL_isDone_173 (by decide) ?_
              refine gciT (X := wX4 T Ad ta ca fa (upd ga 1 (nI (a + 0)))) (vx_runSW (As := [.ref (Ad 1), .int 0, .int (nI i), .int (nI x), .int 0]) (rest := []) ⟨hx, hb, hml, hown, hts⟩ (cL_does_0_noc l hl0 G T Ad AF D mny N f g rk rf rg rh (i % 6) (nI i) (nI x) 0 _ (ix6 (by omega)) (fun h9 => absurd (h9.symm.trans (show kDep (nI i) (nI x) = 2 by rw [kDep_n (by omega) (by omega), if_pos hi6, if_neg (by omega)])) (by decide))) (vx_cwSW 5 hts gL_isDone_L_does rfl rfl rfl (by decide +kernel) ⟨Nat.le_of_ble_eq_true rfl, Nat.le_of_ble_eq_true rfl⟩) ⟨gblind, gpreT (X := wX4 T Ad ta ca fa (upd ga 1 (nI (a + 0)))) hE hK hP hD hS hA⟩ rfl rfl hl.1 rfl (lv_room (Nat.le_of_ble_eq_true rfl)) dL_isDone_174 ⟨Nat.le_of_ble_eq_true rfl, Nat.le_of_ble_eq_true rfl⟩) hP hD hS hA wC_fst (fun r9 H locs hw hP hD hS => ?_)
              have hP : va_P G vwCl (wW T Ad AF ta ca fa (upd ga 1 (nI (a + 0))) D mny N f g rk rf rg rh) H := hP
              have hD : va_D (va_A (wW T Ad AF ta ca fa ga D mny N f g rk rf rg rh) s.heap.size) (wW T Ad AF ta ca fa (upd ga 1 (nI (a + 0))) D mny N f g rk rf rg rh) := hD
              subst hw
              refine gtop (y := (-20)) (wD_20 (show kDep (nI i) (nI x) = 2 by rw [kDep_n (by omega) (by omega), if_pos hi6, if_neg (by omega)])) ?_
              refine lv_iload hx hb dL_isDone_177 (lv_at hl 0 rfl) ?_
              refine lv_icmp_ne (tgt := 186) hx hb dL_isDone_179 (by decide) (fun c179 => ?_) (fun c179 => ?_)
              · exact absurd c179 (by decide)
              · skip
                refine lv_iconst (v := 1) hx hb dL_isDone_182 (by decide) ?_
                refine lv_goto (tgt := 187) hx hb dL_isDone_183 (by decide) ?_
                refine W.widen (k := 16) (n := 96) (Nat.le_of_ble_eq_true rfl) (Nat.le_of_ble_eq_true rfl) ?_
                have hI9 : INV d a D mny N f rk rf rg rh ta ca fa (upd ga 1 (nI (a + 0))) := hI.g1
                exact W.zret (v := 1) hx hb hr (by decide) (fun w9 ht9 hW => ⟨⟨1, (D, mny, N, f, g, rk, rf, rg, rh, ta, ca, fa, (upd ga 1 (nI (a + 0)))), rfl, ⟨rfl, d, a, by omega, by omega, hI9⟩, gBi ht9 (gfin hP (rfl))⟩, hS.F ht9⟩) hS.2.2 dL_isDone_187
            · exact absurd c156 (by decide)
        · skip
          have hi6 : i = 6 := nI_inj (b := 6) (by omega) (by omega) c118
          refine lv_bipush (v := (-30)) hx hb dL_isDone_121 (by decide) ?_
          refine lv_goto (tgt := 147) hx hb dL_isDone_123 (by decide) ?_
          refine lv_istore (lv' := [(14, .int (-30)), (0, .ref (Ad 1)), (3, .ref (Ad 5)), (4, .ref (Ad 6)), (5, .ref (Ad 7)), (6, .ref (Ad 8)), (11, .int (nI i)), (13, .int (nI x))]) hx hb dL_isDone_147 hl (by decide) rfl (fun ls hl => ?_)
          refine lv_aload hx hb dL_isDone_149 (lv_at hl 5 rfl) ?_
          refine lv_iconst (v := 1) hx hb dL_isDone_151 (by decide) ?_
          refine lv_dup2_11 hx hb dL_isDone_152 rfl rfl ?_
          refine giald (j := 1) hx hb hK hP 3 0 rfl rfl (show (1 : Int32) = nI 1 from rfl) (by omega) (by decide) dL_isDone_153 ?_
          refine gtop (y := nI a) i4 ?_
          refine lv_iload hx hb dL_isDone_154 (lv_at hl 0 rfl) ?_
          refine lv_if_le (tgt := 164) hx hb dL_isDone_156 (by decide) (fun c156 => ?_) (fun c156 => ?_)
          · skip
            refine lv_iconst (v := 0) hx hb dL_isDone_164 (by decide) ?_
            refine lv_iadd hx hb dL_isDone_165 ?_
            refine gtop (y := nI (a + 0)) (nI_add a 0) ?_
            refine giast (j := 1) hx hb hK hP hD hS 3 0 rfl rfl (show (1 : Int32) = nI 1 from rfl) (by omega) (by decide) dL_isDone_166 (fun H locs hP hD hS => ?_)
            have hP : va_P G vwCl (wW T Ad AF ta ca fa (upd ga 1 (nI (a + 0))) D mny N f g rk rf rg rh) H := hP
            have hD : va_D (va_A (wW T Ad AF ta ca fa ga D mny N f g rk rf rg rh) s.heap.size) (wW T Ad AF ta ca fa (upd ga 1 (nI (a + 0))) D mny N f g rk rf rg rh) := hD
            refine lv_aload_n hx hb dL_isDone_167 rfl (lv_at hl 1 rfl) ?_
            refine lv_iconst (v := 0) hx hb dL_isDone_168 (by decide) ?_
            refine lv_iload hx hb dL_isDone_169 (lv_at hl 6 rfl) ?_
            refine lv_iload hx hb dL_isDone_171 (lv_at hl 7 rfl) ?_
            refine lv_iconst (v := 0) hx hb dL_isDone_173 (by decide) ?_
            refine gciT (X := wX4 T Ad ta ca fa (upd ga 1 (nI (a + 0)))) (vx_runSW (As := [.ref (Ad 1), .int 0, .int (nI i), .int (nI x), .int 0]) (rest := []) ⟨hx, hb, hml, hown, hts⟩ (cL_does_0_noc l hl0 G T Ad AF D mny N f g rk rf rg rh (i % 6) (nI i) (nI x) 0 _ (ix6 (by omega)) (fun h9 => absurd (h9.symm.trans (show kDep (nI i) (nI x) = 1 by rw [kDep_n (by omega) (by omega), if_neg (by omega)])) (by decide))) (vx_cwSW 5 hts gL_isDone_L_does rfl rfl rfl (by decide +kernel) ⟨Nat.le_of_ble_eq_true rfl, Nat.le_of_ble_eq_true rfl⟩) ⟨gblind, gpreT (X := wX4 T Ad ta ca fa (upd ga 1 (nI (a + 0)))) hE hK hP hD hS hA⟩ rfl rfl hl.1 rfl (lv_room (Nat.le_of_ble_eq_true rfl)) dL_isDone_174 ⟨Nat.le_of_ble_eq_true rfl, Nat.le_of_ble_eq_true rfl⟩) hP hD hS hA wC_fst (fun r9 H locs hw hP hD hS => ?_)
            have hP : va_P G vwCl (wW T Ad AF ta ca fa (upd ga 1 (nI (a + 0))) D mny N f g rk rf rg rh) H := hP
            have hD : va_D (va_A (wW T Ad AF ta ca fa ga D mny N f g rk rf rg rh) s.heap.size) (wW T Ad AF ta ca fa (upd ga 1 (nI (a + 0))) D mny N f g rk rf rg rh) := hD
            subst hw
            refine gtop (y := (-30)) (wD_30 (show kDep (nI i) (nI x) = 1 by rw [kDep_n (by omega) (by omega), if_neg (by omega)])) ?_
            refine lv_iload hx hb dL_isDone_177 (lv_at hl 0 rfl) ?_
            refine lv_icmp_ne (tgt := 186) hx hb dL_isDone_179 (by decide) (fun c179 => ?_) (fun c179 => ?_)
            · exact absurd c179 (by decide)
            · skip
              refine lv_iconst (v := 1) hx hb dL_isDone_182 (by decide) ?_
              refine lv_goto (tgt := 187) hx hb dL_isDone_183 (by decide) ?_
              refine W.widen (k := 16) (n := 96) (Nat.le_of_ble_eq_true rfl) (Nat.le_of_ble_eq_true rfl) ?_
              have hI9 : INV d a D mny N f rk rf rg rh ta ca fa (upd ga 1 (nI (a + 0))) := hI.g1
              exact W.zret (v := 1) hx hb hr (by decide) (fun w9 ht9 hW => ⟨⟨1, (D, mny, N, f, g, rk, rf, rg, rh, ta, ca, fa, (upd ga 1 (nI (a + 0)))), rfl, ⟨rfl, d, a, by omega, by omega, hI9⟩, gBi ht9 (gfin hP (rfl))⟩, hS.F ht9⟩) hS.2.2 dL_isDone_187
          · exact absurd c156 (by decide)
      refine lv_iload hx hb dL_isDone_91 (lv_at hl 7 rfl) ?_
      refine lv_bipush (v := 30) hx hb dL_isDone_93 (by decide) ?_
      refine lv_irem hx hb dL_isDone_95 (by decide) ?_
      refine gtop (y := nI (y3 % 30)) (pk_rem (d := 30) (by omega) (by decide) (by decide)) ?_
      refine lv_if_ne (tgt := 104) hx hb dL_isDone_96 (by decide) (fun c96 => ?_) (fun c96 => ?_)
      · skip
        refine lv_iconst (v := 1) hx hb dL_isDone_104 (by decide) ?_
        refine lv_iload hx hb dL_isDone_105 (lv_at hl 7 rfl) ?_
        refine lv_sipush (v := 400) hx hb dL_isDone_107 (by decide) ?_
        refine lv_irem hx hb dL_isDone_110 (by decide) ?_
        refine gtop (y := nI (y3 % 400)) (pk_rem (d := 400) (by omega) (by decide) (by decide)) ?_
        refine lv_iadd hx hb dL_isDone_111 ?_
        refine gtop (y := nI (1 + (y3 % 400))) (nI_add 1 (y3 % 400)) ?_
        refine lv_istore (lv' := [(13, .int (nI (1 + (y3 % 400)))), (0, .ref (Ad 1)), (3, .ref (Ad 5)), (4, .ref (Ad 6)), (5, .ref (Ad 7)), (6, .ref (Ad 8)), (7, .int (nI w)), (8, .int (nI y1)), (10, .int (nI y3)), (11, .int (nI i)), (12, .int (nI j))]) hx hb dL_isDone_112 hl (by decide) rfl (fun ls hl => ?_)
        exact J114 (1 + (y3 % 400)) _ _ _ (by omega) hP hD hS (lv_sub hl [1, 2, 3, 4, 5, 9, 0] rfl)
      · skip
        refine lv_ldc (v := 100001) hx hb hown (hts (.constant RL 103 100001) (by decide +kernel)) dL_isDone_99 ?_
        refine lv_goto (tgt := 112) hx hb dL_isDone_101 (by decide) ?_
        refine lv_istore (lv' := [(13, .int 100001), (0, .ref (Ad 1)), (3, .ref (Ad 5)), (4, .ref (Ad 6)), (5, .ref (Ad 7)), (6, .ref (Ad 8)), (7, .int (nI w)), (8, .int (nI y1)), (10, .int (nI y3)), (11, .int (nI i)), (12, .int (nI j))]) hx hb dL_isDone_112 hl (by decide) rfl (fun ls hl => ?_)
        exact J114 100001 _ _ _ (by omega) hP hD hS (lv_sub hl [1, 2, 3, 4, 5, 9, 0] rfl)
  refine lv_iload hx hb dL_isDone_45 (lv_at hl 2 rfl) ?_
  refine lv_bipush (v := 40) hx hb dL_isDone_47 (by decide) ?_
  refine lv_irem hx hb dL_isDone_49 (by decide) ?_
  refine gtop (y := nI (u_2 % 40)) (pk_rem (d := 40) (by omega) (by decide) (by decide)) ?_
  refine lv_if_ne (tgt := 58) hx hb dL_isDone_50 (by decide) (fun c50 => ?_) (fun c50 => ?_)
  · skip
    refine lv_iload hx hb dL_isDone_58 (lv_at hl 2 rfl) ?_
    refine lv_bipush (v := 6) hx hb dL_isDone_60 (by decide) ?_
    refine lv_irem hx hb dL_isDone_62 (by decide) ?_
    refine gtop (y := nI (u_2 % 6)) (pk_rem (d := 6) (by omega) (by decide) (by decide)) ?_
    refine lv_istore (lv' := [(11, .int (nI (u_2 % 6))), (10, .int (nI u_4)), (9, .int (nI u_3)), (8, .int (nI u_2)), (7, .int (nI u_1)), (0, .ref (Ad 1)), (1, .ref b), (2, .int (nI k)), (3, .ref (Ad 5)), (4, .ref (Ad 6)), (5, .ref (Ad 7)), (6, .ref (Ad 8))]) hx hb dL_isDone_63 hl (by decide) rfl (fun ls hl => ?_)
    refine lv_iload hx hb dL_isDone_65 (lv_at hl 2 rfl) ?_
    refine lv_bipush (v := 40) hx hb dL_isDone_67 (by decide) ?_
    refine lv_irem hx hb dL_isDone_69 (by decide) ?_
    refine gtop (y := nI (u_3 % 40)) (pk_rem (d := 40) (by omega) (by decide) (by decide)) ?_
    refine lv_if_ne (tgt := 78) hx hb dL_isDone_70 (by decide) (fun c70 => ?_) (fun c70 => ?_)
    · skip
      refine lv_iload hx hb dL_isDone_78 (lv_at hl 2 rfl) ?_
      refine lv_iconst (v := 4) hx hb dL_isDone_80 (by decide) ?_
      refine lv_irem hx hb dL_isDone_81 (by decide) ?_
      refine gtop (y := nI (u_3 % 4)) (pk_rem (d := 4) (by omega) (by decide) (by decide)) ?_
      refine lv_istore (lv' := [(12, .int (nI (u_3 % 4))), (11, .int (nI (u_2 % 6))), (10, .int (nI u_4)), (9, .int (nI u_3)), (8, .int (nI u_2)), (7, .int (nI u_1)), (0, .ref (Ad 1)), (1, .ref b), (2, .int (nI k)), (3, .ref (Ad 5)), (4, .ref (Ad 6)), (5, .ref (Ad 7)), (6, .ref (Ad 8))]) hx hb dL_isDone_82 hl (by decide) rfl (fun ls hl => ?_)
      exact J84 (u_2 % 6) (u_3 % 4) u_1 u_2 u_4 _ _ _ (by omega) (by omega) (by omega) (by omega) (by omega) hP hD hS (lv_sub hl [6, 9, 10, 11, 12, 5, 4, 2, 1, 0] rfl)
    · skip
      refine lv_bipush (v := 16) hx hb dL_isDone_73 (by decide) ?_
      refine lv_goto (tgt := 82) hx hb dL_isDone_75 (by decide) ?_
      refine lv_istore (lv' := [(12, .int 16), (11, .int (nI (u_2 % 6))), (10, .int (nI u_4)), (9, .int (nI u_3)), (8, .int (nI u_2)), (7, .int (nI u_1)), (0, .ref (Ad 1)), (1, .ref b), (2, .int (nI k)), (3, .ref (Ad 5)), (4, .ref (Ad 6)), (5, .ref (Ad 7)), (6, .ref (Ad 8))]) hx hb dL_isDone_82 hl (by decide) rfl (fun ls hl => ?_)
      exact J84 (u_2 % 6) 16 u_1 u_2 u_4 _ _ _ (by omega) (by omega) (by omega) (by omega) (by omega) hP hD hS (lv_sub hl [6, 9, 10, 11, 12, 5, 4, 2, 1, 0] rfl)
  · skip
    refine lv_bipush (v := 6) hx hb dL_isDone_53 (by decide) ?_
    refine lv_goto (tgt := 63) hx hb dL_isDone_55 (by decide) ?_
    refine lv_istore (lv' := [(11, .int 6), (10, .int (nI u_4)), (9, .int (nI u_3)), (8, .int (nI u_2)), (7, .int (nI u_1)), (0, .ref (Ad 1)), (1, .ref b), (2, .int (nI k)), (3, .ref (Ad 5)), (4, .ref (Ad 6)), (5, .ref (Ad 7)), (6, .ref (Ad 8))]) hx hb dL_isDone_63 hl (by decide) rfl (fun ls hl => ?_)
    refine lv_iload hx hb dL_isDone_65 (lv_at hl 2 rfl) ?_
    refine lv_bipush (v := 40) hx hb dL_isDone_67 (by decide) ?_
    refine lv_irem hx hb dL_isDone_69 (by decide) ?_
    refine gtop (y := nI (u_3 % 40)) (pk_rem (d := 40) (by omega) (by decide) (by decide)) ?_
    refine lv_if_ne (tgt := 78) hx hb dL_isDone_70 (by decide) (fun c70 => ?_) (fun c70 => ?_)
    · skip
      refine lv_iload hx hb dL_isDone_78 (lv_at hl 2 rfl) ?_
      refine lv_iconst (v := 4) hx hb dL_isDone_80 (by decide) ?_
      refine lv_irem hx hb dL_isDone_81 (by decide) ?_
      refine gtop (y := nI (u_3 % 4)) (pk_rem (d := 4) (by omega) (by decide) (by decide)) ?_
      refine lv_istore (lv' := [(12, .int (nI (u_3 % 4))), (11, .int 6), (10, .int (nI u_4)), (9, .int (nI u_3)), (8, .int (nI u_2)), (7, .int (nI u_1)), (0, .ref (Ad 1)), (1, .ref b), (2, .int (nI k)), (3, .ref (Ad 5)), (4, .ref (Ad 6)), (5, .ref (Ad 7)), (6, .ref (Ad 8))]) hx hb dL_isDone_82 hl (by decide) rfl (fun ls hl => ?_)
      exact J84 6 (u_3 % 4) u_1 u_2 u_4 _ _ _ (by omega) (by omega) (by omega) (by omega) (by omega) hP hD hS (lv_sub hl [6, 9, 10, 11, 12, 5, 4, 2, 1, 0] rfl)
    · skip
      refine lv_bipush (v := 16) hx hb dL_isDone_73 (by decide) ?_
      refine lv_goto (tgt := 82) hx hb dL_isDone_75 (by decide) ?_
      refine lv_istore (lv' := [(12, .int 16), (11, .int 6), (10, .int (nI u_4)), (9, .int (nI u_3)), (8, .int (nI u_2)), (7, .int (nI u_1)), (0, .ref (Ad 1)), (1, .ref b), (2, .int (nI k)), (3, .ref (Ad 5)), (4, .ref (Ad 6)), (5, .ref (Ad 7)), (6, .ref (Ad 8))]) hx hb dL_isDone_82 hl (by decide) rfl (fun ls hl => ?_)
      exact J84 6 16 u_1 u_2 u_4 _ _ _ (by omega) (by omega) (by omega) (by omega) (by omega) hP hD hS (lv_sub hl [6, 9, 10, 11, 12, 5, 4, 2, 1, 0] rfl)
