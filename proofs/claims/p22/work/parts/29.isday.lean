/-! THE LAW'S METHODS: isDay -/
theorem STEP.no {d1 w : Nat} {N f N2 f2 : Nat → Int32} (h : STEP d1 N f N2 f2 w) (hn : ¬ sDay N = nI d1) : N2 = N ∧ w = 0 := by
  rcases h with ⟨-, h1, -, h2⟩ | ⟨h, -⟩ | ⟨h, -⟩
  · exact ⟨h1, h2⟩
  · exact absurd h hn
  · exact absurd h hn
theorem STEP.au {d1 w : Nat} {N f N2 f2 : Nat → Int32} (h : STEP d1 N f N2 f2 w) (hd : sDay N = nI d1) (h0 : N 0 = 1) : (w = 1 ∧ N2 0 = 2 ∧ (∃ o : Nat, o < 6 ∧ N2 1 = nI o) ∧ N2 3 = nI (d1 + 100) ∧ N2 4 = 0 ∧ N2 5 = 10) ∨ (w = 0 ∧ N2 0 = 0 ∧ N2 1 = -1 ∧ N2 4 = N 4) := by
  rcases h with ⟨h, -⟩ | ⟨-, -, -, h⟩ | ⟨-, ⟨s, s2, s4, e⟩, -⟩
  · exact absurd hd h
  · exact h
  · have := nI_inj (a := s) (b := 1) (by omega) (by omega) (e.symm.trans h0)
    omega
theorem STEP.on {d1 w : Nat} {N f N2 f2 : Nat → Int32} (h : STEP d1 N f N2 f2 w) (hd : sDay N = nI d1) (h0 : ¬ N 0 = 1) : (∃ s : Nat, 2 ≤ s ∧ s ≤ 4 ∧ N 0 = nI s) ∧ N2 = sGoOn N ∧ w = 0 := by
  rcases h with ⟨h, -⟩ | ⟨-, h, -⟩ | ⟨-, h, h1, -, h2⟩
  · exact absurd hd h
  · exact absurd h h0
  · exact ⟨h, h1, h2⟩
abbrev PL_isDay (G : va_G) (T : Nat → ClassId) (Ad : Nat → Nat) (AF : Nat → Nat → Nat) (D mny : Nat → Int32) (N f g : Nat → Nat → Int32) (rk rf rg rh : Nat → Nat → Int32) (ta ca fa ga : Nat → Int32) (d a : Nat) (sz : Nat) : Array Value → State → Prop := gPc G T [.ref (Ad 1), .ref (Ad 5), .ref (Ad 6), .ref (Ad 8)] (wW T Ad AF ta ca fa ga D mny N f g rk rf rg rh) sz
abbrev QL_isDay (G : va_G) (T : Nat → ClassId) (Ad : Nat → Nat) (AF : Nat → Nat → Nat) (D mny : Nat → Int32) (N f g : Nat → Nat → Int32) (rk rf rg rh : Nat → Nat → Int32) (ta ca fa ga : Nat → Int32) (d a : Nat) (sz : Nat) : Array Value → State → Outcome → State → Prop := va_Qi (fun (r : Int32) (u : UL) => r = 1 ∧ INVu (d + 1) a u) (fun (u : UL) (w9 : State) => va_P G vwCl (wW T Ad AF u.2.2.2.2.2.2.2.2.2.1 u.2.2.2.2.2.2.2.2.2.2.1 u.2.2.2.2.2.2.2.2.2.2.2.1 u.2.2.2.2.2.2.2.2.2.2.2.2 u.1 u.2.1 u.2.2.1 u.2.2.2.1 u.2.2.2.2.1 u.2.2.2.2.2.1 u.2.2.2.2.2.2.1 u.2.2.2.2.2.2.2.1 u.2.2.2.2.2.2.2.2.1) w9.heap) (va_A (wW T Ad AF ta ca fa ga D mny N f g rk rf rg rh) sz)
set_option maxHeartbeats 4000000 in
set_option maxRecDepth 100000 in
theorem kL_isDay (l : Launch) (hl0 : l.stackTraces = false) (G : va_G) (T : Nat → ClassId) (Ad : Nat → Nat) (AF : Nat → Nat → Nat) (D mny : Nat → Int32) (N f g : Nat → Nat → Int32) (rk rf rg rh : Nat → Nat → Int32) (ta ca fa ga : Nat → Int32) (d a : Nat) (sz : Nat) (hI : INV d a D mny N f rk rf rg rh ta ca fa ga) (hd : d < 2 ^ 20) (ha : a < 2 ^ 20) : Met l yL_isDay wsL_isDay ({ frames := 6, cells := 0, slots := 0, locals := 134 } : Room) (PL_isDay G T Ad AF D mny N f g rk rf rg rh ta ca fa ga d a sz) (QL_isDay G T Ad AF D mny N f g rk rf rg rh ta ca fa ga d a sz) 0 0 (va_A (wW T Ad AF ta ca fa ga D mny N f g rk rf rg rh) sz) := by
  refine Met.ofW (cc := cL_isDay) (maxL := 12) (ret := (some .boolean)) (by decide) rfl ?_
  intro p e s m args below meth c s₁ B hml hv
  obtain ⟨rfl, hsz, hP, hK, hD0, hE⟩ := hv
  have hx := B.exec
  have hb := B.bytes
  have hr := B.returns
  have hts := atoms_spec (ws := wsL_isDay) B.pre
  have hown : s.vm.findClass RL = some m.cls := findClass_of_methodNamed B.named
  have hlocks := B.notSynchronized
  subst hsz
  have hD := hD0.self (sz := s.heap.size)
  have hA : ∀ q : Nat, s.heap.size ≤ q → (va_A (wW T Ad AF ta ca fa ga D mny N f g rk rf rg rh) s.heap.size) q := fun q h => Or.inr h
  have hS : va_S (va_A (wW T Ad AF ta ca fa ga D mny N f g rk rf rg rh) s.heap.size) s.heap s.heap [] := va_S.rf
  have hl := lv_entry ([.ref (Ad 1), .ref (Ad 5), .ref (Ad 6), .ref (Ad 8)]) (n := 12) (Nat.le_of_ble_eq_true rfl)
  rw [lg_entry_eq]
  generalize (lg_sl ([.ref (Ad 1), .ref (Ad 5), .ref (Ad 6), .ref (Ad 8)]) ++ List.replicate (12 - (lg_sl ([.ref (Ad 1), .ref (Ad 5), .ref (Ad 6), .ref (Ad 8)])).length) Slot.unset).toArray = ls at hl ⊢
  have hl : lv_has ls 12 [(0, .ref (Ad 1)), (1, .ref (Ad 5)), (2, .ref (Ad 6)), (3, .ref (Ad 8))] := hl
  obtain ⟨i1, i2, ⟨m9, p9, j1, j2, j3⟩, i4, i5, i6, i7⟩ := id hI
  have hp9 : p9 < 2 ^ 20 := Nat.lt_of_le_of_lt psum_p (by rw [j3]; exact ha)
  have hm9 : ∀ k, k < 6 → m9 k < 2 ^ 20 := fun k hk => by have := psum_le (p := p9) (m := m9) hk; omega
  have hMO : MO a p9 D mny := ⟨j1, m9, j2, j3⟩
  obtain ⟨D2, m2, N2, f2, wn, p2, hSc, k1, k2, k3, k4, hst, -⟩ := chg_ok (d := d) (d1 := d + 1) (g := g) (D := upd D 3 (D 3 + 1)) (p := p9) (a := a) (mny := mny) (N := N) (f := f) (by rw [upd_at, i1]; exact nI_add d 1) (by omega) ⟨j1, m9, j2, j3⟩ (by omega) (fun j hj => (i5 j hj).1) 16 (Nat.le_refl 16)
  have hRd : sDays g (1 : Int32).toNatClampNeg (D, mny, N, f, 0) = (D2, m2, N2, f2, nI (wsum wn 16)) := (sDays_1 g D mny N f).trans hSc
  have hp2 : p2 < 2 ^ 20 := by
    obtain ⟨q1, mm, q2, q3⟩ := k2
    exact Nat.lt_of_le_of_lt psum_p (by rw [q3]; exact ha)
  have hw16 : 10 * wsum wn 16 ≤ p2 := by omega
  have hP : va_P G vwCl (wW T Ad AF ta ca fa ga D mny N f g rk rf rg rh) s.heap := hP
  refine lv_aload_n hx hb dL_isDay_0 rfl (lv_at hl 0 rfl) ?_
  refine gciT (X := wX4 T Ad ta ca fa ga) (va_runV (As := []) (rest := []) ⟨hx, hb, hml, hown, hts⟩ (cX2_takings_c l hl0 G T Ad AF D mny N f g rk rf rg rh _) (cwV 0 hts gL_isDay_X2_takings rfl rfl rfl (by decide +kernel) ⟨Nat.le_of_ble_eq_true rfl, Nat.le_of_ble_eq_true rfl⟩) ⟨gblind, va_recv hK hP (ci := 2) (q0 := 4) rfl rfl, gpreT (X := wX4 T Ad ta ca fa ga) hE hK hP hD hS hA⟩ rfl rfl hl.1 rfl (lv_room (Nat.le_of_ble_eq_true rfl)) dL_isDay_1 ⟨Nat.le_of_ble_eq_true rfl, Nat.le_of_ble_eq_true rfl⟩) hP hD hS hA wC_fst (fun r9 H locs hw hP hD hS => ?_)
  have hP : va_P G vwCl (wW T Ad AF ta ca fa ga D mny N f g rk rf rg rh) H := hP
  have hD : va_D (va_A (wW T Ad AF ta ca fa ga D mny N f g rk rf rg rh) s.heap.size) (wW T Ad AF ta ca fa ga D mny N f g rk rf rg rh) := hD
  subst hw
  refine gtop (y := nI p9) j1 ?_
  refine lv_istore (lv' := [(4, .int (nI p9)), (0, .ref (Ad 1)), (1, .ref (Ad 5)), (2, .ref (Ad 6)), (3, .ref (Ad 8))]) hx hb dL_isDay_4 hl (by decide) rfl (fun ls hl => ?_)
  refine lv_aload_n hx hb dL_isDay_6 rfl (lv_at hl 4 rfl) ?_
  refine lv_iconst (v := 0) hx hb dL_isDay_7 (by decide) ?_
  refine lv_dup2_11 hx hb dL_isDay_8 rfl rfl ?_
  refine giald (j := 0) hx hb hK hP 3 0 rfl rfl (show (0 : Int32) = nI 0 from rfl) (by omega) (by decide) dL_isDay_9 ?_
  refine gtop (y := nI d) i2 ?_
  refine lv_iconst (v := 1) hx hb dL_isDay_10 (by decide) ?_
  refine lv_iadd hx hb dL_isDay_11 ?_
  refine gtop (y := nI (d + 1)) (nI_add d 1) ?_
  refine giast (j := 0) hx hb hK hP hD hS 3 0 rfl rfl (show (0 : Int32) = nI 0 from rfl) (by omega) (by decide) dL_isDay_12 (fun H locs hP hD hS => ?_)
  have hP : va_P G vwCl (wW T Ad AF ta ca fa (upd ga 0 (nI (d + 1))) D mny N f g rk rf rg rh) H := hP
  have hD : va_D (va_A (wW T Ad AF ta ca fa ga D mny N f g rk rf rg rh) s.heap.size) (wW T Ad AF ta ca fa (upd ga 0 (nI (d + 1))) D mny N f g rk rf rg rh) := hD
  refine lv_aload_n hx hb dL_isDay_13 rfl (lv_at hl 1 rfl) ?_
  refine lv_iconst (v := 1) hx hb dL_isDay_14 (by decide) ?_
  refine gciT (X := wX4 T Ad ta ca fa (upd ga 0 (nI (d + 1)))) (va_runV (As := [.int 1]) (rest := []) ⟨hx, hb, hml, hown, hts⟩ (cX2_pass_c l hl0 G T Ad AF D mny N f g rk rf rg rh (D2, m2, N2, f2, nI (wsum wn 16)) _ hRd) (cwV 1 hts gL_isDay_X2_pass rfl rfl rfl (by decide +kernel) ⟨Nat.le_of_ble_eq_true rfl, Nat.le_of_ble_eq_true rfl⟩) ⟨gblind, va_recv hK hP (ci := 2) (q0 := 4) rfl rfl, gpreT (X := wX4 T Ad ta ca fa (upd ga 0 (nI (d + 1)))) hE hK hP hD hS hA⟩ rfl rfl hl.1 rfl (lv_room (Nat.le_of_ble_eq_true rfl)) dL_isDay_15 ⟨Nat.le_of_ble_eq_true rfl, Nat.le_of_ble_eq_true rfl⟩) hP hD hS hA wC_fst (fun r9 H locs hw hP hD hS => ?_)
  have hw : r9 = nI (wsum wn 16) := hw
  subst hw
  have hP : va_P G vwCl (wW T Ad AF ta ca fa (upd ga 0 (nI (d + 1))) D2 m2 N2 f2 g rk rf rg rh) H := hP
  have hD : va_D (va_A (wW T Ad AF ta ca fa ga D mny N f g rk rf rg rh) s.heap.size) (wW T Ad AF ta ca fa (upd ga 0 (nI (d + 1))) D2 m2 N2 f2 g rk rf rg rh) := hD
  refine lv_istore (lv' := [(5, .int (nI (wsum wn 16))), (4, .int (nI p9)), (0, .ref (Ad 1)), (1, .ref (Ad 5)), (2, .ref (Ad 6)), (3, .ref (Ad 8))]) hx hb dL_isDay_18 hl (by decide) rfl (fun ls hl => ?_)
  refine lv_iconst (v := 0) hx hb dL_isDay_20 (by decide) ?_
  refine lv_istore (lv' := [(6, .int 0), (5, .int (nI (wsum wn 16))), (4, .int (nI p9)), (0, .ref (Ad 1)), (1, .ref (Ad 5)), (2, .ref (Ad 6)), (3, .ref (Ad 8))]) hx hb dL_isDay_21 hl (by decide) rfl (fun ls hl => ?_)
  refine lv_iconst (v := 1) hx hb dL_isDay_23 (by decide) ?_
  refine lv_istore (lv' := [(7, .int 1), (6, .int 0), (5, .int (nI (wsum wn 16))), (4, .int (nI p9)), (0, .ref (Ad 1)), (1, .ref (Ad 5)), (2, .ref (Ad 6)), (3, .ref (Ad 8))]) hx hb dL_isDay_24 hl (by decide) rfl (fun ls hl => ?_)
  refine lv_iconst (v := 0) hx hb dL_isDay_26 (by decide) ?_
  refine lv_istore (lv' := [(8, .int 0), (7, .int 1), (6, .int 0), (5, .int (nI (wsum wn 16))), (4, .int (nI p9)), (0, .ref (Ad 1)), (1, .ref (Ad 5)), (2, .ref (Ad 6)), (3, .ref (Ad 8))]) hx hb dL_isDay_27 hl (by decide) rfl (fun ls hl => ?_)
  have J29 : ∀ n9 : Nat, ∀ (i : Nat) (t1 : Nat → Int32) (c1 : Nat → Int32) (H : Heap) (locs : List Loc) (ls : Array Slot), (i ≤ 16) → (17 ≤ i + n9) → (DAYL i N N2 t1 c1) → va_P G vwCl (wW T Ad AF t1 c1 fa (upd ga 0 (nI (d + 1))) D2 m2 N2 f2 g rk rf rg rh) H → va_D (va_A (wW T Ad AF ta ca fa ga D mny N f g rk rf rg rh) s.heap.size) (wW T Ad AF t1 c1 fa (upd ga 0 (nI (d + 1))) D2 m2 N2 f2 g rk rf rg rh) → va_S (va_A (wW T Ad AF ta ca fa ga D mny N f g rk rf rg rh) s.heap.size) s.heap H locs → lv_has ls 12 [(0, .ref (Ad 1)), (1, .ref (Ad 5)), (2, .ref (Ad 6)), (3, .ref (Ad 8)), (4, .int (nI p9)), (5, .int (nI (wsum wn 16))), (6, .int (nI (wsum wn i))), (7, .int 1), (8, .int (nI i))] → W p l e (headSpec wsL_isDay ({ frames := 6, cells := 0, slots := 0, locals := 134 } : Room)).room s m ([.ref (Ad 1), .ref (Ad 5), .ref (Ad 6), .ref (Ad 8)] : List Value).toArray below meth c H locs 0 0 (MQ below (QL_isDay G T Ad AF D mny N f g rk rf rg rh ta ca fa ga d a s.heap.size) ([.ref (Ad 1), .ref (Ad 5), .ref (Ad 6), .ref (Ad 8)] : List Value).toArray s 0 0 (va_A (wW T Ad AF ta ca fa ga D mny N f g rk rf rg rh) s.heap.size)) (F0 m 29 ls []) := by
    intro n9
    induction n9 with
    | zero => intro i t1 c1 H locs ls hi hm hL hP hD hS hl; exact absurd (hm) (by omega)
    | succ n9 ih29 =>
      intro i t1 c1 H locs ls hi hm hL hP hD hS hl
      refine lv_iload hx hb dL_isDay_29 (lv_at hl 8 rfl) ?_
      refine lv_bipush (v := 16) hx hb dL_isDay_31 (by decide) ?_
      refine lv_icmp_ge (tgt := 258) hx hb dL_isDay_33 (by decide) (fun c33 => ?_) (fun c33 => ?_)
      · skip
        have hge : i = 16 := by
          rcases Nat.lt_or_ge i 16 with q | q
          · exact absurd c33 (nI_ge (b := 16) q (by omega))
          · omega
        rw [hge] at hl hL
        refine lv_iload hx hb dL_isDay_258 (lv_at hl 7 rfl) ?_
        refine lv_if_eq (tgt := 303) hx hb dL_isDay_260 (by decide) (fun c260 => ?_) (fun c260 => ?_)
        · exact absurd c260 (by decide)
        · skip
          refine lv_iload hx hb dL_isDay_263 (lv_at hl 5 rfl) ?_
          refine lv_iload hx hb dL_isDay_265 (lv_at hl 6 rfl) ?_
          refine lv_icmp_ne (tgt := 303) hx hb dL_isDay_267 (by decide) (fun c267 => ?_) (fun c267 => ?_)
          · exact absurd rfl c267
          · skip
            refine lv_aload_n hx hb dL_isDay_270 rfl (lv_at hl 0 rfl) ?_
            refine gciT (X := wX4 T Ad t1 c1 fa (upd ga 0 (nI (d + 1)))) (va_runV (As := []) (rest := []) ⟨hx, hb, hml, hown, hts⟩ (cX2_takings_c l hl0 G T Ad AF D2 m2 N2 f2 g rk rf rg rh _) (cwV 0 hts gL_isDay_X2_takings rfl rfl rfl (by decide +kernel) ⟨Nat.le_of_ble_eq_true rfl, Nat.le_of_ble_eq_true rfl⟩) ⟨gblind, va_recv hK hP (ci := 2) (q0 := 4) rfl rfl, gpreT (X := wX4 T Ad t1 c1 fa (upd ga 0 (nI (d + 1)))) hE hK hP hD hS hA⟩ rfl rfl hl.1 rfl (lv_room (Nat.le_of_ble_eq_true rfl)) dL_isDay_271 ⟨Nat.le_of_ble_eq_true rfl, Nat.le_of_ble_eq_true rfl⟩) hP hD hS hA wC_fst (fun r9 H locs hw hP hD hS => ?_)
            have hP : va_P G vwCl (wW T Ad AF t1 c1 fa (upd ga 0 (nI (d + 1))) D2 m2 N2 f2 g rk rf rg rh) H := hP
            have hD : va_D (va_A (wW T Ad AF ta ca fa ga D mny N f g rk rf rg rh) s.heap.size) (wW T Ad AF t1 c1 fa (upd ga 0 (nI (d + 1))) D2 m2 N2 f2 g rk rf rg rh) := hD
            subst hw
            refine gtop (y := nI p2) k2.1 ?_
            refine lv_iload hx hb dL_isDay_274 (lv_at hl 4 rfl) ?_
            refine lv_bipush (v := 10) hx hb dL_isDay_276 (by decide) ?_
            refine lv_iload hx hb dL_isDay_278 (lv_at hl 6 rfl) ?_
            refine lv_imul hx hb dL_isDay_280 ?_
            refine gtop (y := nI (10 * (wsum wn 16))) (pk_mul 10 (wsum wn 16)) ?_
            refine lv_iadd hx hb dL_isDay_281 ?_
            refine gtop (y := nI (p9 + (10 * (wsum wn 16)))) (nI_add p9 (10 * (wsum wn 16))) ?_
            refine lv_icmp_lt (tgt := 303) hx hb dL_isDay_282 (by decide) (fun c282 => ?_) (fun c282 => ?_)
            · exact absurd c282 (nI_nlt k3 (by omega))
            · skip
              refine lv_iload hx hb dL_isDay_285 (lv_at hl 6 rfl) ?_
              refine lv_if_gt (tgt := 299) hx hb dL_isDay_287 (by decide) (fun c287 => ?_) (fun c287 => ?_)
              · skip
                refine lv_iconst (v := 1) hx hb dL_isDay_299 (by decide) ?_
                refine lv_goto (tgt := 304) hx hb dL_isDay_300 (by decide) ?_
                have hI9 : INV (d + 1) a D2 m2 N2 f2 rk rf rg rh t1 c1 fa (upd ga 0 (nI (d + 1))) := INV.day hI (by omega) k1 k2 hst hL rfl rfl rfl
                exact W.zret (v := 1) hx hb hr (by decide) (fun w9 ht9 hW => ⟨⟨1, (D2, m2, N2, f2, g, rk, rf, rg, rh, t1, c1, fa, (upd ga 0 (nI (d + 1)))), rfl, ⟨rfl, hI9⟩, gBi ht9 (gfin hP (rfl))⟩, hS.F ht9⟩) hS.2.2 dL_isDay_304
              · skip
                refine lv_aload_n hx hb dL_isDay_290 rfl (lv_at hl 0 rfl) ?_
                refine gciT (X := wX4 T Ad t1 c1 fa (upd ga 0 (nI (d + 1)))) (va_runV (As := []) (rest := []) ⟨hx, hb, hml, hown, hts⟩ (cX2_takings_c l hl0 G T Ad AF D2 m2 N2 f2 g rk rf rg rh _) (cwV 0 hts gL_isDay_X2_takings rfl rfl rfl (by decide +kernel) ⟨Nat.le_of_ble_eq_true rfl, Nat.le_of_ble_eq_true rfl⟩) ⟨gblind, va_recv hK hP (ci := 2) (q0 := 4) rfl rfl, gpreT (X := wX4 T Ad t1 c1 fa (upd ga 0 (nI (d + 1)))) hE hK hP hD hS hA⟩ rfl rfl hl.1 rfl (lv_room (Nat.le_of_ble_eq_true rfl)) dL_isDay_291 ⟨Nat.le_of_ble_eq_true rfl, Nat.le_of_ble_eq_true rfl⟩) hP hD hS hA wC_fst (fun r9 H locs hw hP hD hS => ?_)
                have hP : va_P G vwCl (wW T Ad AF t1 c1 fa (upd ga 0 (nI (d + 1))) D2 m2 N2 f2 g rk rf rg rh) H := hP
                have hD : va_D (va_A (wW T Ad AF ta ca fa ga D mny N f g rk rf rg rh) s.heap.size) (wW T Ad AF t1 c1 fa (upd ga 0 (nI (d + 1))) D2 m2 N2 f2 g rk rf rg rh) := hD
                subst hw
                refine gtop (y := nI p2) k2.1 ?_
                refine lv_iload hx hb dL_isDay_294 (lv_at hl 4 rfl) ?_
                refine lv_icmp_ne (tgt := 303) hx hb dL_isDay_296 (by decide) (fun c296 => ?_) (fun c296 => ?_)
                · exact absurd (congrArg nI (k4 (Nat.eq_zero_of_not_pos (fun q9 => c287 (nI_0lt q9 (by omega)))))) c296
                · skip
                  refine lv_iconst (v := 1) hx hb dL_isDay_299 (by decide) ?_
                  refine lv_goto (tgt := 304) hx hb dL_isDay_300 (by decide) ?_
                  have hI9 : INV (d + 1) a D2 m2 N2 f2 rk rf rg rh t1 c1 fa (upd ga 0 (nI (d + 1))) := INV.day hI (by omega) k1 k2 hst hL rfl rfl rfl
                  exact W.zret (v := 1) hx hb hr (by decide) (fun w9 ht9 hW => ⟨⟨1, (D2, m2, N2, f2, g, rk, rf, rg, rh, t1, c1, fa, (upd ga 0 (nI (d + 1)))), rfl, ⟨rfl, hI9⟩, gBi ht9 (gfin hP (rfl))⟩, hS.F ht9⟩) hS.2.2 dL_isDay_304
      · skip
        have hlt : i < 16 := by
          rcases Nat.lt_or_ge i 16 with q | q
          · exact q
          · exact absurd (show (16 : Int32) ≤ nI i from nI_le (a := 16) q (by omega)) c33
        have hli : LI t1 c1 i (N i) := (hL i hlt).2 (Nat.lt_irrefl i)
        have hsi := hst i hlt
        refine lv_iload hx hb dL_isDay_36 (lv_at hl 7 rfl) ?_
        refine lv_if_eq (tgt := 258) hx hb dL_isDay_38 (by decide) (fun c38 => ?_) (fun c38 => ?_)
        · exact absurd c38 (by decide)
        · skip
          refine lv_aload_n hx hb dL_isDay_41 rfl (lv_at hl 1 rfl) ?_
          refine lv_iload hx hb dL_isDay_42 (lv_at hl 8 rfl) ?_
          refine giald (j := i) hx hb hK hP 0 0 rfl rfl (show (nI i : Int32) = nI i from rfl) (by omega) (by decide) dL_isDay_44 ?_
          refine gtop (y := N i 0) hli.1 ?_
          refine lv_istore (lv' := [(9, .int (N i 0)), (0, .ref (Ad 1)), (1, .ref (Ad 5)), (2, .ref (Ad 6)), (3, .ref (Ad 8)), (4, .int (nI p9)), (5, .int (nI (wsum wn 16))), (6, .int (nI (wsum wn i))), (7, .int 1), (8, .int (nI i))]) hx hb dL_isDay_45 hl (by decide) rfl (fun ls hl => ?_)
          refine lv_aload_n hx hb dL_isDay_47 rfl (lv_at hl 2 rfl) ?_
          refine lv_bipush (v := 32) hx hb dL_isDay_48 (by decide) ?_
          refine lv_iload hx hb dL_isDay_50 (lv_at hl 9 rfl) ?_
          refine lv_iadd hx hb dL_isDay_52 ?_
          refine gtop (y := nI (32 + i)) (nI_add 32 i) ?_
          refine giald (j := (32 + i)) hx hb hK hP 0 0 rfl rfl (show (nI (32 + i) : Int32) = nI (32 + i) from rfl) (by omega) (by decide) dL_isDay_53 ?_
          refine gtop (y := sDay (N i)) hli.2.2.1 ?_
          refine lv_aload_n hx hb dL_isDay_54 rfl (lv_at hl 4 rfl) ?_
          refine lv_iconst (v := 0) hx hb dL_isDay_55 (by decide) ?_
          refine giald (j := 0) hx hb hK hP 3 0 rfl rfl (show (0 : Int32) = nI 0 from rfl) (by omega) (by decide) dL_isDay_56 ?_
          refine lv_icmp_ne (tgt := 64) hx hb dL_isDay_57 (by decide) (fun c57 => ?_) (fun c57 => ?_)
          · skip
            obtain ⟨hN2, hwi⟩ := hsi.no c57
            refine lv_iconst (v := 0) hx hb dL_isDay_64 (by decide) ?_
            refine lv_istore (lv' := [(10, .int 0), (9, .int (N i 0)), (0, .ref (Ad 1)), (1, .ref (Ad 5)), (2, .ref (Ad 6)), (3, .ref (Ad 8)), (4, .int (nI p9)), (5, .int (nI (wsum wn 16))), (6, .int (nI (wsum wn i))), (7, .int 1), (8, .int (nI i))]) hx hb dL_isDay_65 hl (by decide) rfl (fun ls hl => ?_)
            refine lv_aload_n hx hb dL_isDay_67 rfl (lv_at hl 3 rfl) ?_
            refine lv_bipush (v := 16) hx hb dL_isDay_68 (by decide) ?_
            refine lv_iload hx hb dL_isDay_70 (lv_at hl 10 rfl) ?_
            refine lv_iadd hx hb dL_isDay_72 ?_
            refine gtop (y := nI (16 + i)) (nI_add 16 i) ?_
            refine giald (j := (16 + i)) hx hb hK hP 0 0 rfl rfl (show (nI (16 + i) : Int32) = nI (16 + i) from rfl) (by omega) (by decide) dL_isDay_73 ?_
            refine gtop (y := N i 1) hli.2.1 ?_
            refine lv_istore (lv' := [(11, .int (N i 1)), (10, .int 0), (9, .int (N i 0)), (0, .ref (Ad 1)), (1, .ref (Ad 5)), (2, .ref (Ad 6)), (3, .ref (Ad 8)), (4, .int (nI p9)), (5, .int (nI (wsum wn 16))), (6, .int (nI (wsum wn i))), (7, .int 1), (8, .int (nI i))]) hx hb dL_isDay_74 hl (by decide) rfl (fun ls hl => ?_)
            refine lv_aload_n hx hb dL_isDay_76 rfl (lv_at hl 3 rfl) ?_
            refine lv_aload_n hx hb dL_isDay_77 rfl (lv_at hl 4 rfl) ?_
            refine lv_iload hx hb dL_isDay_78 (lv_at hl 11 rfl) ?_
            refine gcvT (X := ([] : va_W)) (va_runS (As := [.ref (Ad 1), .ref (Ad 5), .int (nI i)]) (rest := []) ⟨hx, hb, hml, hown, hts⟩ (kL_sees_z l hl0 G T Ad AF D2 m2 N2 f2 g rk rf rg rh t1 c1 fa (upd ga 0 (nI (d + 1))) i _ (by omega)) (va_cwS 3 hts gL_isDay_L_sees rfl rfl rfl (by decide +kernel) ⟨Nat.le_of_ble_eq_true rfl, Nat.le_of_ble_eq_true rfl⟩) ⟨gblind, gpreT (X := ([] : va_W)) hE hK hP hD hS hA⟩ rfl rfl hl.1 rfl (lv_room (Nat.le_of_ble_eq_true rfl)) dL_isDay_80 ⟨Nat.le_of_ble_eq_true rfl, Nat.le_of_ble_eq_true rfl⟩) hP hD hS hA wW_fst (fun H locs hw hP hD hS => ?_)
            have hP : va_P G vwCl (wW T Ad AF (upd (upd (upd t1 i (N2 i 0)) (16 + i) (N2 i 1)) (32 + i) (sDay (N2 i))) c1 fa (upd ga 0 (nI (d + 1))) D2 m2 N2 f2 g rk rf rg rh) H := hP
            have hD : va_D (va_A (wW T Ad AF ta ca fa ga D mny N f g rk rf rg rh) s.heap.size) (wW T Ad AF (upd (upd (upd t1 i (N2 i 0)) (16 + i) (N2 i 1)) (32 + i) (sDay (N2 i))) c1 fa (upd ga 0 (nI (d + 1))) D2 m2 N2 f2 g rk rf rg rh) := hD
            refine lv_iload hx hb dL_isDay_83 (lv_at hl 1 rfl) ?_
            refine lv_if_ne (tgt := 119) hx hb dL_isDay_85 (by decide) (fun c85 => ?_) (fun c85 => ?_)
            · exact absurd c85 (by decide)
            · skip
              refine lv_aload_n hx hb dL_isDay_88 rfl (lv_at hl 4 rfl) ?_
              refine lv_iload hx hb dL_isDay_89 (lv_at hl 11 rfl) ?_
              refine giald (j := i) hx hb hK hP 0 0 rfl rfl (show (nI i : Int32) = nI i from rfl) (by omega) (by decide) dL_isDay_91 ?_
              refine gtop (y := N i 0) (by rw [upd_no (by omega), upd_no (by omega), upd_at]; rw [hN2]) ?_
              refine lv_iload hx hb dL_isDay_92 (lv_at hl 2 rfl) ?_
              refine lv_icmp_ne (tgt := 113) hx hb dL_isDay_94 (by decide) (fun c94 => ?_) (fun c94 => ?_)
              · exact absurd rfl c94
              · skip
                refine lv_aload_n hx hb dL_isDay_97 rfl (lv_at hl 4 rfl) ?_
                refine lv_bipush (v := 16) hx hb dL_isDay_98 (by decide) ?_
                refine lv_iload hx hb dL_isDay_100 (lv_at hl 11 rfl) ?_
                refine lv_iadd hx hb dL_isDay_102 ?_
                refine gtop (y := nI (16 + i)) (nI_add 16 i) ?_
                refine giald (j := (16 + i)) hx hb hK hP 0 0 rfl rfl (show (nI (16 + i) : Int32) = nI (16 + i) from rfl) (by omega) (by decide) dL_isDay_103 ?_
                refine gtop (y := N i 1) (by rw [upd_no (by omega), upd_at]; rw [hN2]) ?_
                refine lv_iload hx hb dL_isDay_104 (lv_at hl 0 rfl) ?_
                refine lv_icmp_ne (tgt := 113) hx hb dL_isDay_106 (by decide) (fun c106 => ?_) (fun c106 => ?_)
                · exact absurd rfl c106
                · skip
                  refine lv_iconst (v := 1) hx hb dL_isDay_109 (by decide) ?_
                  refine lv_goto (tgt := 114) hx hb dL_isDay_110 (by decide) ?_
                  refine lv_istore (lv' := [(7, .int 1), (11, .int (N i 1)), (10, .int 0), (9, .int (N i 0)), (0, .ref (Ad 1)), (1, .ref (Ad 5)), (2, .ref (Ad 6)), (3, .ref (Ad 8)), (4, .int (nI p9)), (5, .int (nI (wsum wn 16))), (6, .int (nI (wsum wn i))), (8, .int (nI i))]) hx hb dL_isDay_114 hl (by decide) rfl (fun ls hl => ?_)
                  refine lv_goto (tgt := 252) hx hb dL_isDay_116 (by decide) ?_
                  refine lv_iinc (v := nI (i + 1)) (lv' := [(8, .int (nI (i + 1))), (7, .int 1), (11, .int (N i 1)), (10, .int 0), (9, .int (N i 0)), (0, .ref (Ad 1)), (1, .ref (Ad 5)), (2, .ref (Ad 6)), (3, .ref (Ad 8)), (4, .int (nI p9)), (5, .int (nI (wsum wn 16))), (6, .int (nI (wsum wn i)))]) hx hb dL_isDay_252 hl (k := 11) rfl (by first | rfl | exact (nI_add i 1)) (by decide) rfl (fun ls hl => ?_)
                  refine lv_goto (tgt := 29) hx hb dL_isDay_255 (by decide) ?_
                  rw [show (nI (wsum wn i)) = (nI (wsum wn (i + 1))) from (congrArg nI (by rw [wsum, hwi] <;> rfl))] at hl
                  exact ih29 (i + 1) (upd (upd (upd t1 i (N2 i 0)) (16 + i) (N2 i 1)) (32 + i) (sDay (N2 i))) c1 _ _ _ (by omega) (by omega) (hL.step hlt (fun k hk hne => ⟨rfl, rfl, rfl⟩) (hsi.li (by omega) hlt hli (fun z => c57 z.1))) hP hD hS (lv_sub hl [5, 6, 7, 8, 9, 10, 11, 1, 0] rfl)
          · skip
            refine lv_iconst (v := 1) hx hb dL_isDay_60 (by decide) ?_
            refine lv_goto (tgt := 65) hx hb dL_isDay_61 (by decide) ?_
            refine lv_istore (lv' := [(10, .int 1), (9, .int (N i 0)), (0, .ref (Ad 1)), (1, .ref (Ad 5)), (2, .ref (Ad 6)), (3, .ref (Ad 8)), (4, .int (nI p9)), (5, .int (nI (wsum wn 16))), (6, .int (nI (wsum wn i))), (7, .int 1), (8, .int (nI i))]) hx hb dL_isDay_65 hl (by decide) rfl (fun ls hl => ?_)
            refine lv_aload_n hx hb dL_isDay_67 rfl (lv_at hl 3 rfl) ?_
            refine lv_bipush (v := 16) hx hb dL_isDay_68 (by decide) ?_
            refine lv_iload hx hb dL_isDay_70 (lv_at hl 10 rfl) ?_
            refine lv_iadd hx hb dL_isDay_72 ?_
            refine gtop (y := nI (16 + i)) (nI_add 16 i) ?_
            refine giald (j := (16 + i)) hx hb hK hP 0 0 rfl rfl (show (nI (16 + i) : Int32) = nI (16 + i) from rfl) (by omega) (by decide) dL_isDay_73 ?_
            refine gtop (y := N i 1) hli.2.1 ?_
            refine lv_istore (lv' := [(11, .int (N i 1)), (10, .int 1), (9, .int (N i 0)), (0, .ref (Ad 1)), (1, .ref (Ad 5)), (2, .ref (Ad 6)), (3, .ref (Ad 8)), (4, .int (nI p9)), (5, .int (nI (wsum wn 16))), (6, .int (nI (wsum wn i))), (7, .int 1), (8, .int (nI i))]) hx hb dL_isDay_74 hl (by decide) rfl (fun ls hl => ?_)
            refine lv_aload_n hx hb dL_isDay_76 rfl (lv_at hl 3 rfl) ?_
            refine lv_aload_n hx hb dL_isDay_77 rfl (lv_at hl 4 rfl) ?_
            refine lv_iload hx hb dL_isDay_78 (lv_at hl 11 rfl) ?_
            refine gcvT (X := ([] : va_W)) (va_runS (As := [.ref (Ad 1), .ref (Ad 5), .int (nI i)]) (rest := []) ⟨hx, hb, hml, hown, hts⟩ (kL_sees_z l hl0 G T Ad AF D2 m2 N2 f2 g rk rf rg rh t1 c1 fa (upd ga 0 (nI (d + 1))) i _ (by omega)) (va_cwS 3 hts gL_isDay_L_sees rfl rfl rfl (by decide +kernel) ⟨Nat.le_of_ble_eq_true rfl, Nat.le_of_ble_eq_true rfl⟩) ⟨gblind, gpreT (X := ([] : va_W)) hE hK hP hD hS hA⟩ rfl rfl hl.1 rfl (lv_room (Nat.le_of_ble_eq_true rfl)) dL_isDay_80 ⟨Nat.le_of_ble_eq_true rfl, Nat.le_of_ble_eq_true rfl⟩) hP hD hS hA wW_fst (fun H locs hw hP hD hS => ?_)
            have hP : va_P G vwCl (wW T Ad AF (upd (upd (upd t1 i (N2 i 0)) (16 + i) (N2 i 1)) (32 + i) (sDay (N2 i))) c1 fa (upd ga 0 (nI (d + 1))) D2 m2 N2 f2 g rk rf rg rh) H := hP
            have hD : va_D (va_A (wW T Ad AF ta ca fa ga D mny N f g rk rf rg rh) s.heap.size) (wW T Ad AF (upd (upd (upd t1 i (N2 i 0)) (16 + i) (N2 i 1)) (32 + i) (sDay (N2 i))) c1 fa (upd ga 0 (nI (d + 1))) D2 m2 N2 f2 g rk rf rg rh) := hD
            refine lv_iload hx hb dL_isDay_83 (lv_at hl 1 rfl) ?_
            refine lv_if_ne (tgt := 119) hx hb dL_isDay_85 (by decide) (fun c85 => ?_) (fun c85 => ?_)
            · skip
              refine lv_iload hx hb dL_isDay_119 (lv_at hl 2 rfl) ?_
              refine lv_iconst (v := 1) hx hb dL_isDay_121 (by decide) ?_
              refine lv_icmp_ne (tgt := 206) hx hb dL_isDay_122 (by decide) (fun c122 => ?_) (fun c122 => ?_)
              · skip
                obtain ⟨⟨sN, s2, s4, eS⟩, hgo, hwi⟩ := hsi.on c57 c122
                refine lv_aload_n hx hb dL_isDay_206 rfl (lv_at hl 4 rfl) ?_
                refine lv_iload hx hb dL_isDay_207 (lv_at hl 11 rfl) ?_
                refine giald (j := i) hx hb hK hP 0 0 rfl rfl (show (nI i : Int32) = nI i from rfl) (by omega) (by decide) dL_isDay_209 ?_
                refine gtop (y := nI ((sN + 1) % 5)) (by rw [upd_no (by omega), upd_no (by omega), upd_at]; rw [hgo]; exact goOn_0 s2 s4 eS) ?_
                refine lv_iload hx hb dL_isDay_210 (lv_at hl 2 rfl) ?_
                refine gtop (y := nI sN) eS ?_
                refine lv_iconst (v := 1) hx hb dL_isDay_212 (by decide) ?_
                refine lv_iadd hx hb dL_isDay_213 ?_
                refine gtop (y := nI (sN + 1)) (nI_add sN 1) ?_
                refine lv_iconst (v := 5) hx hb dL_isDay_214 (by decide) ?_
                refine lv_irem hx hb dL_isDay_215 (by decide) ?_
                refine gtop (y := nI ((sN + 1) % 5)) (pk_rem (d := 5) (by omega) (by decide) (by decide)) ?_
                refine lv_icmp_ne (tgt := 249) hx hb dL_isDay_216 (by decide) (fun c216 => ?_) (fun c216 => ?_)
                · exact absurd rfl c216
                · skip
                  refine lv_aload_n hx hb dL_isDay_219 rfl (lv_at hl 4 rfl) ?_
                  refine lv_bipush (v := 32) hx hb dL_isDay_220 (by decide) ?_
                  refine lv_iload hx hb dL_isDay_222 (lv_at hl 11 rfl) ?_
                  refine lv_iadd hx hb dL_isDay_224 ?_
                  refine gtop (y := nI (32 + i)) (nI_add 32 i) ?_
                  refine giald (j := (32 + i)) hx hb hK hP 0 0 rfl rfl (show (nI (32 + i) : Int32) = nI (32 + i) from rfl) (by omega) (by decide) dL_isDay_225 ?_
                  refine gtop (y := (if sN = 4 then -1 else nI ((d + 1) + 10))) (by rw [upd_at]; rw [hgo]; exact goOn_day (by omega) (i5 i hlt).1 c57 s2 s4 eS) ?_
                  refine lv_iload hx hb dL_isDay_226 (lv_at hl 2 rfl) ?_
                  refine gtop (y := nI sN) eS ?_
                  refine lv_iconst (v := 4) hx hb dL_isDay_228 (by decide) ?_
                  refine lv_icmp_ne (tgt := 236) hx hb dL_isDay_229 (by decide) (fun c229 => ?_) (fun c229 => ?_)
                  · skip
                    have hs4 : ¬ sN = 4 := fun z => c229 (by rw [z]; rfl)
                    refine lv_aload_n hx hb dL_isDay_236 rfl (lv_at hl 6 rfl) ?_
                    refine lv_iconst (v := 0) hx hb dL_isDay_237 (by decide) ?_
                    refine giald (j := 0) hx hb hK hP 3 0 rfl rfl (show (0 : Int32) = nI 0 from rfl) (by omega) (by decide) dL_isDay_238 ?_
                    refine gtop (y := nI (d + 1)) (upd_at _ _ _) ?_
                    refine lv_bipush (v := 10) hx hb dL_isDay_239 (by decide) ?_
                    refine lv_iadd hx hb dL_isDay_241 ?_
                    refine gtop (y := nI ((d + 1) + 10)) (nI_add (d + 1) 10) ?_
                    refine lv_icmp_ne (tgt := 249) hx hb dL_isDay_242 (by decide) (fun c242 => ?_) (fun c242 => ?_)
                    · exact absurd (if_neg hs4) c242
                    · skip
                      refine lv_iconst (v := 1) hx hb dL_isDay_245 (by decide) ?_
                      refine lv_goto (tgt := 250) hx hb dL_isDay_246 (by decide) ?_
                      refine lv_istore (lv' := [(7, .int 1), (11, .int (N i 1)), (10, .int 1), (9, .int (N i 0)), (0, .ref (Ad 1)), (1, .ref (Ad 5)), (2, .ref (Ad 6)), (3, .ref (Ad 8)), (4, .int (nI p9)), (5, .int (nI (wsum wn 16))), (6, .int (nI (wsum wn i))), (8, .int (nI i))]) hx hb dL_isDay_250 hl (by decide) rfl (fun ls hl => ?_)
                      refine lv_iinc (v := nI (i + 1)) (lv' := [(8, .int (nI (i + 1))), (7, .int 1), (11, .int (N i 1)), (10, .int 1), (9, .int (N i 0)), (0, .ref (Ad 1)), (1, .ref (Ad 5)), (2, .ref (Ad 6)), (3, .ref (Ad 8)), (4, .int (nI p9)), (5, .int (nI (wsum wn 16))), (6, .int (nI (wsum wn i)))]) hx hb dL_isDay_252 hl (k := 11) rfl (by first | rfl | exact (nI_add i 1)) (by decide) rfl (fun ls hl => ?_)
                      refine lv_goto (tgt := 29) hx hb dL_isDay_255 (by decide) ?_
                      rw [show (nI (wsum wn i)) = (nI (wsum wn (i + 1))) from (congrArg nI (by rw [wsum, hwi] <;> rfl))] at hl
                      exact ih29 (i + 1) (upd (upd (upd t1 i (N2 i 0)) (16 + i) (N2 i 1)) (32 + i) (sDay (N2 i))) c1 _ _ _ (by omega) (by omega) (hL.step hlt (fun k hk hne => ⟨rfl, rfl, rfl⟩) (hsi.li (by omega) hlt hli (fun z => c122 z.2))) hP hD hS (lv_sub hl [5, 6, 7, 8, 9, 10, 11, 1, 0] rfl)
                  · skip
                    have hs4 : sN = 4 := nI_inj (b := 4) (by omega) (by omega) c229
                    refine lv_iconst (v := (-1)) hx hb dL_isDay_232 (by decide) ?_
                    refine lv_goto (tgt := 242) hx hb dL_isDay_233 (by decide) ?_
                    refine lv_icmp_ne (tgt := 249) hx hb dL_isDay_242 (by decide) (fun c242 => ?_) (fun c242 => ?_)
                    · exact absurd (if_pos hs4) c242
                    · skip
                      refine lv_iconst (v := 1) hx hb dL_isDay_245 (by decide) ?_
                      refine lv_goto (tgt := 250) hx hb dL_isDay_246 (by decide) ?_
                      refine lv_istore (lv' := [(7, .int 1), (11, .int (N i 1)), (10, .int 1), (9, .int (N i 0)), (0, .ref (Ad 1)), (1, .ref (Ad 5)), (2, .ref (Ad 6)), (3, .ref (Ad 8)), (4, .int (nI p9)), (5, .int (nI (wsum wn 16))), (6, .int (nI (wsum wn i))), (8, .int (nI i))]) hx hb dL_isDay_250 hl (by decide) rfl (fun ls hl => ?_)
                      refine lv_iinc (v := nI (i + 1)) (lv' := [(8, .int (nI (i + 1))), (7, .int 1), (11, .int (N i 1)), (10, .int 1), (9, .int (N i 0)), (0, .ref (Ad 1)), (1, .ref (Ad 5)), (2, .ref (Ad 6)), (3, .ref (Ad 8)), (4, .int (nI p9)), (5, .int (nI (wsum wn 16))), (6, .int (nI (wsum wn i)))]) hx hb dL_isDay_252 hl (k := 11) rfl (by first | rfl | exact (nI_add i 1)) (by decide) rfl (fun ls hl => ?_)
                      refine lv_goto (tgt := 29) hx hb dL_isDay_255 (by decide) ?_
                      rw [show (nI (wsum wn i)) = (nI (wsum wn (i + 1))) from (congrArg nI (by rw [wsum, hwi] <;> rfl))] at hl
                      exact ih29 (i + 1) (upd (upd (upd t1 i (N2 i 0)) (16 + i) (N2 i 1)) (32 + i) (sDay (N2 i))) c1 _ _ _ (by omega) (by omega) (hL.step hlt (fun k hk hne => ⟨rfl, rfl, rfl⟩) (hsi.li (by omega) hlt hli (fun z => c122 z.2))) hP hD hS (lv_sub hl [5, 6, 7, 8, 9, 10, 11, 1, 0] rfl)
              · skip
                rcases hsi.au c57 c122 with ⟨hwi, e0, ⟨o, ho6, e1⟩, e3, e4, e5⟩ | ⟨hwi, e0, e1, e4⟩
                · skip
                  refine lv_iload hx hb dL_isDay_125 (lv_at hl 9 rfl) ?_
                  refine lv_aload_n hx hb dL_isDay_127 rfl (lv_at hl 4 rfl) ?_
                  refine lv_iload hx hb dL_isDay_128 (lv_at hl 11 rfl) ?_
                  refine giald (j := i) hx hb hK hP 0 0 rfl rfl (show (nI i : Int32) = nI i from rfl) (by omega) (by decide) dL_isDay_130 ?_
                  refine gtop (y := 2) (by rw [upd_no (by omega), upd_no (by omega), upd_at]; exact e0) ?_
                  refine lv_iconst (v := 2) hx hb dL_isDay_131 (by decide) ?_
                  refine lv_icmp_ne (tgt := 139) hx hb dL_isDay_132 (by decide) (fun c132 => ?_) (fun c132 => ?_)
                  · exact absurd c132 (by decide)
                  · skip
                    refine lv_iconst (v := 1) hx hb dL_isDay_135 (by decide) ?_
                    refine lv_goto (tgt := 140) hx hb dL_isDay_136 (by decide) ?_
                    refine lv_iadd hx hb dL_isDay_140 ?_
                    refine gtop (y := nI ((wsum wn i) + 1)) (nI_add (wsum wn i) 1) ?_
                    refine lv_istore (lv' := [(6, .int (nI ((wsum wn i) + 1))), (11, .int (N i 1)), (10, .int 1), (9, .int (N i 0)), (0, .ref (Ad 1)), (1, .ref (Ad 5)), (2, .ref (Ad 6)), (3, .ref (Ad 8)), (4, .int (nI p9)), (5, .int (nI (wsum wn 16))), (7, .int 1), (8, .int (nI i))]) hx hb dL_isDay_141 hl (by decide) rfl (fun ls hl => ?_)
                    refine lv_aload_n hx hb dL_isDay_143 rfl (lv_at hl 6 rfl) ?_
                    refine lv_iload hx hb dL_isDay_144 (lv_at hl 11 rfl) ?_
                    refine lv_iconst (v := 0) hx hb dL_isDay_146 (by decide) ?_
                    refine giast (j := i) hx hb hK hP hD hS 1 0 rfl rfl (show (nI i : Int32) = nI i from rfl) (by omega) (by decide) dL_isDay_147 (fun H locs hP hD hS => ?_)
                    have hP : va_P G vwCl (wW T Ad AF (upd (upd (upd t1 i (N2 i 0)) (16 + i) (N2 i 1)) (32 + i) (sDay (N2 i))) (upd c1 i 0) fa (upd ga 0 (nI (d + 1))) D2 m2 N2 f2 g rk rf rg rh) H := hP
                    have hD : va_D (va_A (wW T Ad AF ta ca fa ga D mny N f g rk rf rg rh) s.heap.size) (wW T Ad AF (upd (upd (upd t1 i (N2 i 0)) (16 + i) (N2 i 1)) (32 + i) (sDay (N2 i))) (upd c1 i 0) fa (upd ga 0 (nI (d + 1))) D2 m2 N2 f2 g rk rf rg rh) := hD
                    refine lv_aload_n hx hb dL_isDay_148 rfl (lv_at hl 6 rfl) ?_
                    refine lv_bipush (v := 16) hx hb dL_isDay_149 (by decide) ?_
                    refine lv_iload hx hb dL_isDay_151 (lv_at hl 11 rfl) ?_
                    refine lv_iadd hx hb dL_isDay_153 ?_
                    refine gtop (y := nI (16 + i)) (nI_add 16 i) ?_
                    refine lv_bipush (v := 10) hx hb dL_isDay_154 (by decide) ?_
                    refine giast (j := (16 + i)) hx hb hK hP hD hS 1 0 rfl rfl (show (nI (16 + i) : Int32) = nI (16 + i) from rfl) (by omega) (by decide) dL_isDay_156 (fun H locs hP hD hS => ?_)
                    have hP : va_P G vwCl (wW T Ad AF (upd (upd (upd t1 i (N2 i 0)) (16 + i) (N2 i 1)) (32 + i) (sDay (N2 i))) (upd (upd c1 i 0) (16 + i) 10) fa (upd ga 0 (nI (d + 1))) D2 m2 N2 f2 g rk rf rg rh) H := hP
                    have hD : va_D (va_A (wW T Ad AF ta ca fa ga D mny N f g rk rf rg rh) s.heap.size) (wW T Ad AF (upd (upd (upd t1 i (N2 i 0)) (16 + i) (N2 i 1)) (32 + i) (sDay (N2 i))) (upd (upd c1 i 0) (16 + i) 10) fa (upd ga 0 (nI (d + 1))) D2 m2 N2 f2 g rk rf rg rh) := hD
                    refine lv_aload_n hx hb dL_isDay_157 rfl (lv_at hl 5 rfl) ?_
                    refine lv_iload hx hb dL_isDay_158 (lv_at hl 11 rfl) ?_
                    refine giald (j := i) hx hb hK hP 0 0 rfl rfl (show (nI i : Int32) = nI i from rfl) (by omega) (by decide) dL_isDay_160 ?_
                    refine gtop (y := 2) (by rw [upd_no (by omega), upd_no (by omega), upd_at]; exact e0) ?_
                    refine lv_iconst (v := 2) hx hb dL_isDay_161 (by decide) ?_
                    refine lv_icmp_ne (tgt := 189) hx hb dL_isDay_162 (by decide) (fun c162 => ?_) (fun c162 => ?_)
                    · exact absurd c162 (by decide)
                    · skip
                      refine lv_aload_n hx hb dL_isDay_165 rfl (lv_at hl 5 rfl) ?_
                      refine lv_bipush (v := 32) hx hb dL_isDay_166 (by decide) ?_
                      refine lv_iload hx hb dL_isDay_168 (lv_at hl 11 rfl) ?_
                      refine lv_iadd hx hb dL_isDay_170 ?_
                      refine gtop (y := nI (32 + i)) (nI_add 32 i) ?_
                      refine giald (j := (32 + i)) hx hb hK hP 0 0 rfl rfl (show (nI (32 + i) : Int32) = nI (32 + i) from rfl) (by omega) (by decide) dL_isDay_171 ?_
                      refine gtop (y := nI ((d + 1) + 100)) (by rw [upd_at]; exact (sDay_H (s := 2) (by omega) (by omega) e0 e3).trans (congrArg nI (by omega))) ?_
                      refine lv_aload_n hx hb dL_isDay_172 rfl (lv_at hl 7 rfl) ?_
                      refine lv_iconst (v := 0) hx hb dL_isDay_173 (by decide) ?_
                      refine giald (j := 0) hx hb hK hP 3 0 rfl rfl (show (0 : Int32) = nI 0 from rfl) (by omega) (by decide) dL_isDay_174 ?_
                      refine gtop (y := nI (d + 1)) (upd_at _ _ _) ?_
                      refine lv_bipush (v := 100) hx hb dL_isDay_175 (by decide) ?_
                      refine lv_iadd hx hb dL_isDay_177 ?_
                      refine gtop (y := nI ((d + 1) + 100)) (nI_add (d + 1) 100) ?_
                      refine lv_icmp_ne (tgt := 185) hx hb dL_isDay_178 (by decide) (fun c178 => ?_) (fun c178 => ?_)
                      · exact absurd rfl c178
                      · skip
                        refine lv_iconst (v := 1) hx hb dL_isDay_181 (by decide) ?_
                        refine lv_goto (tgt := 201) hx hb dL_isDay_182 (by decide) ?_
                        refine lv_istore (lv' := [(7, .int 1), (6, .int (nI ((wsum wn i) + 1))), (11, .int (N i 1)), (10, .int 1), (9, .int (N i 0)), (0, .ref (Ad 1)), (1, .ref (Ad 5)), (2, .ref (Ad 6)), (3, .ref (Ad 8)), (4, .int (nI p9)), (5, .int (nI (wsum wn 16))), (8, .int (nI i))]) hx hb dL_isDay_201 hl (by decide) rfl (fun ls hl => ?_)
                        refine lv_goto (tgt := 252) hx hb dL_isDay_203 (by decide) ?_
                        refine lv_iinc (v := nI (i + 1)) (lv' := [(8, .int (nI (i + 1))), (7, .int 1), (6, .int (nI ((wsum wn i) + 1))), (11, .int (N i 1)), (10, .int 1), (9, .int (N i 0)), (0, .ref (Ad 1)), (1, .ref (Ad 5)), (2, .ref (Ad 6)), (3, .ref (Ad 8)), (4, .int (nI p9)), (5, .int (nI (wsum wn 16)))]) hx hb dL_isDay_252 hl (k := 11) rfl (by first | rfl | exact (nI_add i 1)) (by decide) rfl (fun ls hl => ?_)
                        refine lv_goto (tgt := 29) hx hb dL_isDay_255 (by decide) ?_
                        rw [show (nI ((wsum wn i) + 1)) = (nI (wsum wn (i + 1))) from (congrArg nI (by rw [wsum, hwi] <;> rfl))] at hl
                        exact ih29 (i + 1) (upd (upd (upd t1 i (N2 i 0)) (16 + i) (N2 i 1)) (32 + i) (sDay (N2 i))) (upd (upd c1 i 0) (16 + i) 10) _ _ _ (by omega) (by omega) (hL.step hlt (fun k hk hne => ⟨by rw [upd_no (by omega), upd_no (by omega)], by rw [upd_no (by omega), upd_no (by omega)], by rw [upd_no (by omega), upd_no (by omega)]⟩) (hsi.liA hlt hli c57 c122)) hP hD hS (lv_sub hl [6, 7, 8, 9, 10, 11, 2, 1, 0] rfl)
                · skip
                  refine lv_iload hx hb dL_isDay_125 (lv_at hl 9 rfl) ?_
                  refine lv_aload_n hx hb dL_isDay_127 rfl (lv_at hl 4 rfl) ?_
                  refine lv_iload hx hb dL_isDay_128 (lv_at hl 11 rfl) ?_
                  refine giald (j := i) hx hb hK hP 0 0 rfl rfl (show (nI i : Int32) = nI i from rfl) (by omega) (by decide) dL_isDay_130 ?_
                  refine gtop (y := 0) (by rw [upd_no (by omega), upd_no (by omega), upd_at]; exact e0) ?_
                  refine lv_iconst (v := 2) hx hb dL_isDay_131 (by decide) ?_
                  refine lv_icmp_ne (tgt := 139) hx hb dL_isDay_132 (by decide) (fun c132 => ?_) (fun c132 => ?_)
                  · skip
                    refine lv_iconst (v := 0) hx hb dL_isDay_139 (by decide) ?_
                    refine lv_iadd hx hb dL_isDay_140 ?_
                    refine gtop (y := nI ((wsum wn i) + 0)) (nI_add (wsum wn i) 0) ?_
                    refine lv_istore (lv' := [(6, .int (nI ((wsum wn i) + 0))), (11, .int (N i 1)), (10, .int 1), (9, .int (N i 0)), (0, .ref (Ad 1)), (1, .ref (Ad 5)), (2, .ref (Ad 6)), (3, .ref (Ad 8)), (4, .int (nI p9)), (5, .int (nI (wsum wn 16))), (7, .int 1), (8, .int (nI i))]) hx hb dL_isDay_141 hl (by decide) rfl (fun ls hl => ?_)
                    refine lv_aload_n hx hb dL_isDay_143 rfl (lv_at hl 6 rfl) ?_
                    refine lv_iload hx hb dL_isDay_144 (lv_at hl 11 rfl) ?_
                    refine lv_iconst (v := 0) hx hb dL_isDay_146 (by decide) ?_
                    refine giast (j := i) hx hb hK hP hD hS 1 0 rfl rfl (show (nI i : Int32) = nI i from rfl) (by omega) (by decide) dL_isDay_147 (fun H locs hP hD hS => ?_)
                    have hP : va_P G vwCl (wW T Ad AF (upd (upd (upd t1 i (N2 i 0)) (16 + i) (N2 i 1)) (32 + i) (sDay (N2 i))) (upd c1 i 0) fa (upd ga 0 (nI (d + 1))) D2 m2 N2 f2 g rk rf rg rh) H := hP
                    have hD : va_D (va_A (wW T Ad AF ta ca fa ga D mny N f g rk rf rg rh) s.heap.size) (wW T Ad AF (upd (upd (upd t1 i (N2 i 0)) (16 + i) (N2 i 1)) (32 + i) (sDay (N2 i))) (upd c1 i 0) fa (upd ga 0 (nI (d + 1))) D2 m2 N2 f2 g rk rf rg rh) := hD
                    refine lv_aload_n hx hb dL_isDay_148 rfl (lv_at hl 6 rfl) ?_
                    refine lv_bipush (v := 16) hx hb dL_isDay_149 (by decide) ?_
                    refine lv_iload hx hb dL_isDay_151 (lv_at hl 11 rfl) ?_
                    refine lv_iadd hx hb dL_isDay_153 ?_
                    refine gtop (y := nI (16 + i)) (nI_add 16 i) ?_
                    refine lv_bipush (v := 10) hx hb dL_isDay_154 (by decide) ?_
                    refine giast (j := (16 + i)) hx hb hK hP hD hS 1 0 rfl rfl (show (nI (16 + i) : Int32) = nI (16 + i) from rfl) (by omega) (by decide) dL_isDay_156 (fun H locs hP hD hS => ?_)
                    have hP : va_P G vwCl (wW T Ad AF (upd (upd (upd t1 i (N2 i 0)) (16 + i) (N2 i 1)) (32 + i) (sDay (N2 i))) (upd (upd c1 i 0) (16 + i) 10) fa (upd ga 0 (nI (d + 1))) D2 m2 N2 f2 g rk rf rg rh) H := hP
                    have hD : va_D (va_A (wW T Ad AF ta ca fa ga D mny N f g rk rf rg rh) s.heap.size) (wW T Ad AF (upd (upd (upd t1 i (N2 i 0)) (16 + i) (N2 i 1)) (32 + i) (sDay (N2 i))) (upd (upd c1 i 0) (16 + i) 10) fa (upd ga 0 (nI (d + 1))) D2 m2 N2 f2 g rk rf rg rh) := hD
                    refine lv_aload_n hx hb dL_isDay_157 rfl (lv_at hl 5 rfl) ?_
                    refine lv_iload hx hb dL_isDay_158 (lv_at hl 11 rfl) ?_
                    refine giald (j := i) hx hb hK hP 0 0 rfl rfl (show (nI i : Int32) = nI i from rfl) (by omega) (by decide) dL_isDay_160 ?_
                    refine gtop (y := 0) (by rw [upd_no (by omega), upd_no (by omega), upd_at]; exact e0) ?_
                    refine lv_iconst (v := 2) hx hb dL_isDay_161 (by decide) ?_
                    refine lv_icmp_ne (tgt := 189) hx hb dL_isDay_162 (by decide) (fun c162 => ?_) (fun c162 => ?_)
                    · skip
                      refine lv_aload_n hx hb dL_isDay_189 rfl (lv_at hl 5 rfl) ?_
                      refine lv_iload hx hb dL_isDay_190 (lv_at hl 11 rfl) ?_
                      refine giald (j := i) hx hb hK hP 0 0 rfl rfl (show (nI i : Int32) = nI i from rfl) (by omega) (by decide) dL_isDay_192 ?_
                      refine gtop (y := 0) (by rw [upd_no (by omega), upd_no (by omega), upd_at]; exact e0) ?_
                      refine lv_if_ne (tgt := 200) hx hb dL_isDay_193 (by decide) (fun c193 => ?_) (fun c193 => ?_)
                      · exact absurd c193 (by decide)
                      · skip
                        refine lv_iconst (v := 1) hx hb dL_isDay_196 (by decide) ?_
                        refine lv_goto (tgt := 201) hx hb dL_isDay_197 (by decide) ?_
                        refine lv_istore (lv' := [(7, .int 1), (6, .int (nI ((wsum wn i) + 0))), (11, .int (N i 1)), (10, .int 1), (9, .int (N i 0)), (0, .ref (Ad 1)), (1, .ref (Ad 5)), (2, .ref (Ad 6)), (3, .ref (Ad 8)), (4, .int (nI p9)), (5, .int (nI (wsum wn 16))), (8, .int (nI i))]) hx hb dL_isDay_201 hl (by decide) rfl (fun ls hl => ?_)
                        refine lv_goto (tgt := 252) hx hb dL_isDay_203 (by decide) ?_
                        refine lv_iinc (v := nI (i + 1)) (lv' := [(8, .int (nI (i + 1))), (7, .int 1), (6, .int (nI ((wsum wn i) + 0))), (11, .int (N i 1)), (10, .int 1), (9, .int (N i 0)), (0, .ref (Ad 1)), (1, .ref (Ad 5)), (2, .ref (Ad 6)), (3, .ref (Ad 8)), (4, .int (nI p9)), (5, .int (nI (wsum wn 16)))]) hx hb dL_isDay_252 hl (k := 11) rfl (by first | rfl | exact (nI_add i 1)) (by decide) rfl (fun ls hl => ?_)
                        refine lv_goto (tgt := 29) hx hb dL_isDay_255 (by decide) ?_
                        rw [show (nI ((wsum wn i) + 0)) = (nI (wsum wn (i + 1))) from (congrArg nI (by rw [wsum, hwi] <;> rfl))] at hl
                        exact ih29 (i + 1) (upd (upd (upd t1 i (N2 i 0)) (16 + i) (N2 i 1)) (32 + i) (sDay (N2 i))) (upd (upd c1 i 0) (16 + i) 10) _ _ _ (by omega) (by omega) (hL.step hlt (fun k hk hne => ⟨by rw [upd_no (by omega), upd_no (by omega)], by rw [upd_no (by omega), upd_no (by omega)], by rw [upd_no (by omega), upd_no (by omega)]⟩) (hsi.liA hlt hli c57 c122)) hP hD hS (lv_sub hl [6, 7, 8, 9, 10, 11, 2, 1, 0] rfl)
                    · exact absurd c162 (by decide)
                  · exact absurd c132 (by decide)
            · exact absurd c85 (by decide)
  rw [show (0) = (nI (wsum wn 0)) from (rfl)] at hl
  exact J29 17 0 ta ca _ _ _ (by omega) (by omega) (fun j hj => ⟨fun z => absurd z (by omega), fun _ => (i5 j hj).2⟩) hP hD hS (lv_sub hl [5, 6, 7, 8, 4, 3, 2, 1, 0] rfl)
