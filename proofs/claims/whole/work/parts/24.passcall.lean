/-! THE LAW'S OWN CALL of pass -/
abbrev PL_pass_ok (G : va_G) (T : Nat → ClassId) (na mo nm rs : Nat) (D mny : Nat → Int32) (rA : Nat → Nat) (x1 x2 x3 : Nat → Nat) (N f g : Nat → Nat → Int32) (p0 : Int32) (yo : Nat) (h0 : Nat → Int64) (sz : Nat) : Array Value → State → Prop := gPc G T [.ref na, .int p0, .ref yo] (([(yo, .inl (T 4, 1, .inr (.inl h0)))]) ++ (cA T na mo nm rs D mny x1 rA) ++ (cNs T x1 x2 x3 N f g)) sz
abbrev QL_pass_ok (G : va_G) (T : Nat → ClassId) (na mo nm rs : Nat) (D mny : Nat → Int32) (rA : Nat → Nat) (x1 x2 x3 : Nat → Nat) (N f g : Nat → Nat → Int32) (p0 : Int32) (yo : Nat) (h0 : Nat → Int64) (sz : Nat) : Array Value → State → Outcome → State → Prop := va_Qi (fun (r : Int32) (_ : Unit) => r = 0) (gB G (([(yo, .inl (T 4, 1, .inr (.inl (vp_updL h0 0 (((sDays g p0.toNatClampNeg (D, mny, N, f, 0)).2.2.2.2).toInt64)))))]) ++ (cA T na mo nm rs ((sDays g p0.toNatClampNeg (D, mny, N, f, 0)).1) ((sDays g p0.toNatClampNeg (D, mny, N, f, 0)).2.1) x1 rA) ++ (cNs T x1 x2 x3 ((sDays g p0.toNatClampNeg (D, mny, N, f, 0)).2.2.1) ((sDays g p0.toNatClampNeg (D, mny, N, f, 0)).2.2.2.1) g))) (va_A (([(yo, .inl (T 4, 1, .inr (.inl h0)))]) ++ (cA T na mo nm rs D mny x1 rA) ++ (cNs T x1 x2 x3 N f g)) sz)
set_option maxHeartbeats 4000000 in
set_option maxRecDepth 100000 in
theorem kL_pass_ok (l : Launch) (hl0 : l.stackTraces = false) (G : va_G) (T : Nat → ClassId) (na mo nm rs : Nat) (D mny : Nat → Int32) (rA : Nat → Nat) (x1 x2 x3 : Nat → Nat) (N f g : Nat → Nat → Int32) (p0 : Int32) (yo : Nat) (h0 : Nat → Int64) (sz : Nat) (hk : (kDays p0) = 0) : Met l yL_pass wsL_pass ({ frames := 8, cells := 1, slots := 6, locals := 134 } : Room) (PL_pass_ok G T na mo nm rs D mny rA x1 x2 x3 N f g p0 yo h0 sz) (QL_pass_ok G T na mo nm rs D mny rA x1 x2 x3 N f g p0 yo h0 sz) 1 6 (va_A (([(yo, .inl (T 4, 1, .inr (.inl h0)))]) ++ (cA T na mo nm rs D mny x1 rA) ++ (cNs T x1 x2 x3 N f g)) sz) := by
  refine va_MetW (cc := cL_pass) (maxL := 4) (ret := (some .int)) (hh := [(0, 9, 12, 15)]) (by decide) rfl ?_
  intro p e s m args below meth c s₁ B hml hv
  obtain ⟨rfl, hsz, hP, hK, hD0, hE⟩ := hv
  have hx := B.exec
  have hb := B.bytes
  have hr := B.returns
  have hts := atoms_spec (ws := wsL_pass) B.pre
  have hown : s.vm.findClass RL = some m.cls := findClass_of_methodNamed B.named
  have hlocks := B.notSynchronized
  have htab : c.exceptionTable.toList = tableOf [(0, 9, 12, 15)] := vx_table (x := yL_pass) B (hts _ List.mem_cons_self)
  subst hsz
  have hD := hD0.self (sz := s.heap.size)
  have hA : ∀ q : Nat, s.heap.size ≤ q → (va_A (([(yo, .inl (T 4, 1, .inr (.inl h0)))]) ++ (cA T na mo nm rs D mny x1 rA) ++ (cNs T x1 x2 x3 N f g)) s.heap.size) q := fun q h => Or.inr h
  have hS : va_S (va_A (([(yo, .inl (T 4, 1, .inr (.inl h0)))]) ++ (cA T na mo nm rs D mny x1 rA) ++ (cNs T x1 x2 x3 N f g)) s.heap.size) s.heap s.heap [] := va_S.rf
  have hl := lv_entry ([.ref na, .int p0, .ref yo]) (n := 4) (Nat.le_of_ble_eq_true rfl)
  rw [lg_entry_eq]
  generalize (lg_sl ([.ref na, .int p0, .ref yo]) ++ List.replicate (4 - (lg_sl ([.ref na, .int p0, .ref yo])).length) Slot.unset).toArray = ls at hl ⊢
  have hl : lv_has ls 4 [(0, .ref na), (1, .int p0), (2, .ref yo)] := hl
  have hP : va_P G vwCl (([(yo, .inl (T 4, 1, .inr (.inl h0)))]) ++ (cA T na mo nm rs D mny x1 rA) ++ (cNs T x1 x2 x3 N f g)) s.heap := hP
  refine lv_aload_n hx hb dL_pass_0 rfl (lv_at hl 2 rfl) ?_
  refine lv_iconst (v := 0) hx hb dL_pass_1 (by decide) ?_
  refine lv_aload_n hx hb dL_pass_2 rfl (lv_at hl 0 rfl) ?_
  refine lv_iload_n hx hb dL_pass_3 rfl (lv_at hl 1 rfl) ?_
  refine gxiT (X := [(yo, .inl (T 4, 1, .inr (.inl h0)))]) (vx_runV (As := [.int p0]) (rest := [.int 0, .ref yo]) ⟨hx, hb, hml, hown, hts⟩ (kX2_pass l hl0 G T na mo nm rs D mny rA x1 x2 x3 N f g p0 _) (cwV 1 hts gL_pass_X2_pass rfl rfl rfl (by decide +kernel) ⟨Nat.le_of_ble_eq_true rfl, Nat.le_of_ble_eq_true rfl⟩) ⟨gblind, va_recv hK hP (ci := 2) (q0 := 1) rfl rfl, gpreT (X := [(yo, .inl (T 4, 1, .inr (.inl h0)))]) hE hK hP hD hS hA⟩ rfl rfl hl.1 rfl (lv_room (Nat.le_of_ble_eq_true rfl)) dL_pass_4 ⟨Nat.le_of_ble_eq_true rfl, Nat.le_of_ble_eq_true rfl⟩) hP hD hS hA cS_fst (fun E9 ce9 q9 H locs he hP hD hS hce hcv hcl => ?_) (fun r9 H locs hw hP hD hS => ?_)
  · skip
    have hP : va_P G vwCl (([(yo, .inl (T 4, 1, .inr (.inl h0)))]) ++ (cA T na mo nm rs D mny x1 rA) ++ (cNs T x1 x2 x3 N f g)) H := hP
    have hD : va_D (va_A (([(yo, .inl (T 4, 1, .inr (.inl h0)))]) ++ (cA T na mo nm rs D mny x1 rA) ++ (cNs T x1 x2 x3 N f g)) s.heap.size) (([(yo, .inl (T 4, 1, .inr (.inl h0)))]) ++ (cA T na mo nm rs D mny x1 rA) ++ (cNs T x1 x2 x3 N f g)) := hD
    rcases he with ⟨hk9, rfl⟩ | ⟨hk9, rfl⟩ | ⟨hk9, rfl⟩
    · skip
      exact absurd (hk.symm.trans hk9) (by decide)
    · skip
      exact absurd (hk.symm.trans hk9) (by decide)
    · skip
      exact absurd (hk.symm.trans hk9) (by decide)
  · skip
    have hP : va_P G vwCl (([(yo, .inl (T 4, 1, .inr (.inl h0)))]) ++ (cA T na mo nm rs ((sDays g p0.toNatClampNeg (D, mny, N, f, 0)).1) ((sDays g p0.toNatClampNeg (D, mny, N, f, 0)).2.1) x1 rA) ++ (cNs T x1 x2 x3 ((sDays g p0.toNatClampNeg (D, mny, N, f, 0)).2.2.1) ((sDays g p0.toNatClampNeg (D, mny, N, f, 0)).2.2.2.1) g)) H := hP
    have hD : va_D (va_A (([(yo, .inl (T 4, 1, .inr (.inl h0)))]) ++ (cA T na mo nm rs D mny x1 rA) ++ (cNs T x1 x2 x3 N f g)) s.heap.size) (([(yo, .inl (T 4, 1, .inr (.inl h0)))]) ++ (cA T na mo nm rs ((sDays g p0.toNatClampNeg (D, mny, N, f, 0)).1) ((sDays g p0.toNatClampNeg (D, mny, N, f, 0)).2.1) x1 rA) ++ (cNs T x1 x2 x3 ((sDays g p0.toNatClampNeg (D, mny, N, f, 0)).2.2.1) ((sDays g p0.toNatClampNeg (D, mny, N, f, 0)).2.2.2.1) g)) := hD
    obtain ⟨hok4, hw⟩ := hw
    subst hw
    refine lv_i2l (v := ((sDays g p0.toNatClampNeg (D, mny, N, f, 0)).2.2.2.2).toInt64) hx hb dL_pass_7 rfl ?_
    refine glast (j := 0) hx hb hK hP hD hS 0 4 rfl rfl (show (0 : Int32) = nI 0 from rfl) (by omega) (by decide) dL_pass_8 (fun H locs hP hD hS => ?_)
    have hP : va_P G vwCl (([(yo, .inl (T 4, 1, .inr (.inl (vp_updL h0 0 (((sDays g p0.toNatClampNeg (D, mny, N, f, 0)).2.2.2.2).toInt64)))))]) ++ (cA T na mo nm rs ((sDays g p0.toNatClampNeg (D, mny, N, f, 0)).1) ((sDays g p0.toNatClampNeg (D, mny, N, f, 0)).2.1) x1 rA) ++ (cNs T x1 x2 x3 ((sDays g p0.toNatClampNeg (D, mny, N, f, 0)).2.2.1) ((sDays g p0.toNatClampNeg (D, mny, N, f, 0)).2.2.2.1) g)) H := hP
    have hD : va_D (va_A (([(yo, .inl (T 4, 1, .inr (.inl h0)))]) ++ (cA T na mo nm rs D mny x1 rA) ++ (cNs T x1 x2 x3 N f g)) s.heap.size) (([(yo, .inl (T 4, 1, .inr (.inl (vp_updL h0 0 (((sDays g p0.toNatClampNeg (D, mny, N, f, 0)).2.2.2.2).toInt64)))))]) ++ (cA T na mo nm rs ((sDays g p0.toNatClampNeg (D, mny, N, f, 0)).1) ((sDays g p0.toNatClampNeg (D, mny, N, f, 0)).2.1) x1 rA) ++ (cNs T x1 x2 x3 ((sDays g p0.toNatClampNeg (D, mny, N, f, 0)).2.2.1) ((sDays g p0.toNatClampNeg (D, mny, N, f, 0)).2.2.2.1) g)) := hD
    refine lv_goto (tgt := 15) hx hb dL_pass_9 (by decide) ?_
    refine lv_iconst (v := 0) hx hb dL_pass_15 (by decide) ?_
    exact W.iret (v := 0) hx hb hr (fun t ht9 hW => ⟨⟨0, (), rfl, rfl, gBi ht9 (gfin hP (rfl))⟩, hS.F ht9⟩) hS.2.2 dL_pass_16
abbrev PL_pass_no (G : va_G) (T : Nat → ClassId) (na mo nm rs : Nat) (D mny : Nat → Int32) (rA : Nat → Nat) (x1 x2 x3 : Nat → Nat) (N f g : Nat → Nat → Int32) (p0 : Int32) (yo : Nat) (h0 : Nat → Int64) (sz : Nat) : Array Value → State → Prop := gPc G T [.ref na, .int p0, .ref yo] (([(yo, .inl (T 4, 1, .inr (.inl h0)))]) ++ (cA T na mo nm rs D mny x1 rA) ++ (cNs T x1 x2 x3 N f g)) sz
abbrev QL_pass_no (G : va_G) (T : Nat → ClassId) (na mo nm rs : Nat) (D mny : Nat → Int32) (rA : Nat → Nat) (x1 x2 x3 : Nat → Nat) (N f g : Nat → Nat → Int32) (p0 : Int32) (yo : Nat) (h0 : Nat → Int64) (sz : Nat) : Array Value → State → Outcome → State → Prop := va_Qi (fun (r : Int32) (_ : Unit) => r = w1 (kDays p0)) (gB G (([(yo, .inl (T 4, 1, .inr (.inl h0)))]) ++ (cA T na mo nm rs D mny x1 rA) ++ (cNs T x1 x2 x3 N f g))) (va_A (([(yo, .inl (T 4, 1, .inr (.inl h0)))]) ++ (cA T na mo nm rs D mny x1 rA) ++ (cNs T x1 x2 x3 N f g)) sz)
set_option maxHeartbeats 4000000 in
set_option maxRecDepth 100000 in
theorem kL_pass_no (l : Launch) (hl0 : l.stackTraces = false) (G : va_G) (T : Nat → ClassId) (na mo nm rs : Nat) (D mny : Nat → Int32) (rA : Nat → Nat) (x1 x2 x3 : Nat → Nat) (N f g : Nat → Nat → Int32) (p0 : Int32) (yo : Nat) (h0 : Nat → Int64) (sz : Nat) (hk : ¬ (kDays p0) = 0) : Met l yL_pass wsL_pass ({ frames := 8, cells := 1, slots := 6, locals := 134 } : Room) (PL_pass_no G T na mo nm rs D mny rA x1 x2 x3 N f g p0 yo h0 sz) (QL_pass_no G T na mo nm rs D mny rA x1 x2 x3 N f g p0 yo h0 sz) 1 6 (va_A (([(yo, .inl (T 4, 1, .inr (.inl h0)))]) ++ (cA T na mo nm rs D mny x1 rA) ++ (cNs T x1 x2 x3 N f g)) sz) := by
  refine va_MetW (cc := cL_pass) (maxL := 4) (ret := (some .int)) (hh := [(0, 9, 12, 15)]) (by decide) rfl ?_
  intro p e s m args below meth c s₁ B hml hv
  obtain ⟨rfl, hsz, hP, hK, hD0, hE⟩ := hv
  have hx := B.exec
  have hb := B.bytes
  have hr := B.returns
  have hts := atoms_spec (ws := wsL_pass) B.pre
  have hown : s.vm.findClass RL = some m.cls := findClass_of_methodNamed B.named
  have hlocks := B.notSynchronized
  have htab : c.exceptionTable.toList = tableOf [(0, 9, 12, 15)] := vx_table (x := yL_pass) B (hts _ List.mem_cons_self)
  subst hsz
  have hD := hD0.self (sz := s.heap.size)
  have hA : ∀ q : Nat, s.heap.size ≤ q → (va_A (([(yo, .inl (T 4, 1, .inr (.inl h0)))]) ++ (cA T na mo nm rs D mny x1 rA) ++ (cNs T x1 x2 x3 N f g)) s.heap.size) q := fun q h => Or.inr h
  have hS : va_S (va_A (([(yo, .inl (T 4, 1, .inr (.inl h0)))]) ++ (cA T na mo nm rs D mny x1 rA) ++ (cNs T x1 x2 x3 N f g)) s.heap.size) s.heap s.heap [] := va_S.rf
  have hl := lv_entry ([.ref na, .int p0, .ref yo]) (n := 4) (Nat.le_of_ble_eq_true rfl)
  rw [lg_entry_eq]
  generalize (lg_sl ([.ref na, .int p0, .ref yo]) ++ List.replicate (4 - (lg_sl ([.ref na, .int p0, .ref yo])).length) Slot.unset).toArray = ls at hl ⊢
  have hl : lv_has ls 4 [(0, .ref na), (1, .int p0), (2, .ref yo)] := hl
  have hP : va_P G vwCl (([(yo, .inl (T 4, 1, .inr (.inl h0)))]) ++ (cA T na mo nm rs D mny x1 rA) ++ (cNs T x1 x2 x3 N f g)) s.heap := hP
  refine lv_aload_n hx hb dL_pass_0 rfl (lv_at hl 2 rfl) ?_
  refine lv_iconst (v := 0) hx hb dL_pass_1 (by decide) ?_
  refine lv_aload_n hx hb dL_pass_2 rfl (lv_at hl 0 rfl) ?_
  refine lv_iload_n hx hb dL_pass_3 rfl (lv_at hl 1 rfl) ?_
  refine gxiT (X := [(yo, .inl (T 4, 1, .inr (.inl h0)))]) (vx_runV (As := [.int p0]) (rest := [.int 0, .ref yo]) ⟨hx, hb, hml, hown, hts⟩ (kX2_pass l hl0 G T na mo nm rs D mny rA x1 x2 x3 N f g p0 _) (cwV 1 hts gL_pass_X2_pass rfl rfl rfl (by decide +kernel) ⟨Nat.le_of_ble_eq_true rfl, Nat.le_of_ble_eq_true rfl⟩) ⟨gblind, va_recv hK hP (ci := 2) (q0 := 1) rfl rfl, gpreT (X := [(yo, .inl (T 4, 1, .inr (.inl h0)))]) hE hK hP hD hS hA⟩ rfl rfl hl.1 rfl (lv_room (Nat.le_of_ble_eq_true rfl)) dL_pass_4 ⟨Nat.le_of_ble_eq_true rfl, Nat.le_of_ble_eq_true rfl⟩) hP hD hS hA cS_fst (fun E9 ce9 q9 H locs he hP hD hS hce hcv hcl => ?_) (fun r9 H locs hw hP hD hS => ?_)
  · skip
    have hP : va_P G vwCl (([(yo, .inl (T 4, 1, .inr (.inl h0)))]) ++ (cA T na mo nm rs D mny x1 rA) ++ (cNs T x1 x2 x3 N f g)) H := hP
    have hD : va_D (va_A (([(yo, .inl (T 4, 1, .inr (.inl h0)))]) ++ (cA T na mo nm rs D mny x1 rA) ++ (cNs T x1 x2 x3 N f g)) s.heap.size) (([(yo, .inl (T 4, 1, .inr (.inl h0)))]) ++ (cA T na mo nm rs D mny x1 rA) ++ (cNs T x1 x2 x3 N f g)) := hD
    rcases he with ⟨hk9, rfl⟩ | ⟨hk9, rfl⟩ | ⟨hk9, rfl⟩
    · skip
      exact absurd hk9 (by simp only [kDays]; repeat (first | split | decide))
    · skip
      refine vx_catch (own := RL) (name := "java/lang/IllegalArgumentException") hown [] ⟨0, 9, 12, 15⟩ [] (htab.trans rfl) (fun z hz => nomatch hz) rfl (by decide) (hts (.classLink RL 15 "java/lang/IllegalArgumentException") (by decide +kernel)) (va_Nw.use rfl (hE.1 (.castable "java/lang/IllegalArgumentException" "java/lang/IllegalArgumentException") (by decide +kernel))) hce hcv hcl ?_
      refine lv_astore_n (lv' := [(3, .ref q9), (0, .ref na), (1, .int p0), (2, .ref yo)]) hx hb dL_pass_12 rfl hl (by decide) rfl (fun ls hl => ?_)
      refine lv_iconst (v := 1) hx hb dL_pass_13 (by decide) ?_
      exact W.iret (v := 1) hx hb hr (fun t ht9 hW => ⟨⟨1, (), rfl, by rw [hk9]; rfl, gBi ht9 (gfin hP (rfl))⟩, hS.F ht9⟩) hS.2.2 dL_pass_14
    · skip
      exact absurd hk9 (by simp only [kDays]; repeat (first | split | decide))
  · skip
    have hP : va_P G vwCl (([(yo, .inl (T 4, 1, .inr (.inl h0)))]) ++ (cA T na mo nm rs ((sDays g p0.toNatClampNeg (D, mny, N, f, 0)).1) ((sDays g p0.toNatClampNeg (D, mny, N, f, 0)).2.1) x1 rA) ++ (cNs T x1 x2 x3 ((sDays g p0.toNatClampNeg (D, mny, N, f, 0)).2.2.1) ((sDays g p0.toNatClampNeg (D, mny, N, f, 0)).2.2.2.1) g)) H := hP
    have hD : va_D (va_A (([(yo, .inl (T 4, 1, .inr (.inl h0)))]) ++ (cA T na mo nm rs D mny x1 rA) ++ (cNs T x1 x2 x3 N f g)) s.heap.size) (([(yo, .inl (T 4, 1, .inr (.inl h0)))]) ++ (cA T na mo nm rs ((sDays g p0.toNatClampNeg (D, mny, N, f, 0)).1) ((sDays g p0.toNatClampNeg (D, mny, N, f, 0)).2.1) x1 rA) ++ (cNs T x1 x2 x3 ((sDays g p0.toNatClampNeg (D, mny, N, f, 0)).2.2.1) ((sDays g p0.toNatClampNeg (D, mny, N, f, 0)).2.2.2.1) g)) := hD
    exact absurd hw.1 hk
/-! THE SIMULATION: sign -/
theorem okI_lt {k M : Nat} (h : k < M) (hM : M < 2 ^ 31) : okI (nI k) (nI M) = true := decide_eq_true ⟨nI_pos (by omega), nI_ge h hM⟩
theorem okI_ge {k M : Nat} (h : M ≤ k) (hk : k < 2 ^ 31) : okI (nI k) (nI M) = false := decide_eq_false (fun y => y.2 (nI_le h hk))
theorem own_ch : ∀ o, o < 6 → ¬ nI ((48 + nI o).toBitVec.toNat % 65536) = 32 := by decide +kernel
section SIMS
variable {n : Nat} {D mny : Nat → Int32} {N f g : Nat → Nat → Int32} {rk rf rg rh : Nat → Nat → Int32} {I1 : Nat → Int32} {F : Nat → Nat → Int32}
theorem sign_key {c j : Nat} (hR : RN c (N j) (f j) (g j) F j) (p1 : Int32) :
    (okI p1 (if F 4 j = -1 then nI (wLen (wIx (F 3 j))) else nI (wLen (wIx (F 3 j)) + 1 + 1)) = true ∧ ¬ mSgn F j p1 = 32 ∧ sSign (N j) p1 = mSgn F j p1) ∨
      (okI p1 (if F 4 j = -1 then nI (wLen (wIx (F 3 j))) else nI (wLen (wIx (F 3 j)) + 1 + 1)) = false ∧ mSgn F j p1 = 32) := by
  have e3 : N j 0 = F 3 j := hR.1.1
  have e4 : N j 1 = F 4 j := hR.1.2.1
  have hs : ∃ s : Nat, s < 6 ∧ F 3 j = nI s := by
    obtain ⟨s, h1, h2⟩ := hR.2.1
    exact ⟨s, h1, e3.symm.trans h2⟩
  have hin : ∀ k, k < wLen (wIx (F 3 j)) → mLet (F 3 j) (nI k) = chW (wIx (F 3 j)) k ∧ ¬ mLet (F 3 j) (nI k) = 32 := fun k hk => mLet_in hs hk
  have hL : wLen (wIx (F 3 j)) ≤ 10 := wLen_10 _ (wIx_lt _)
  rw [sSign, e3, e4]
  generalize hw : wIx (F 3 j) = w at hin hL
  generalize hLL : wLen w = L at hin hL
  have hS : ∀ p : Int32, mSgn F j p = if p < 0 then mSgE F j p else if nI L ≤ p then mSgE F j p else mLet (F 3 j) p := fun p => by rw [mSgn, hw, hLL]
  have hT : ∀ p : Int32, mSgE F j p = if F 3 j < 2 then 32 else if F 4 j = -1 then 32 else if p = nI L then 58 else if p = nI (L + 1) then nI ((48 + F 4 j).toBitVec.toNat % 65536) else 32 := fun p => by rw [mSgE, hw, hLL]
  by_cases z : p1 < 0
  · right
    have a1 : ¬ p1 = nI L := fun y => nI_pos (n := L) (by omega) (y ▸ z)
    have a2 : ¬ p1 = nI (L + 1) := fun y => nI_pos (n := L + 1) (by omega) (y ▸ z)
    refine ⟨decide_eq_false (fun y => y.1 z), ?_⟩
    rw [hS, if_pos z, hT, if_neg a1, if_neg a2, ite_self, ite_self]
  · obtain ⟨k, hk, rfl⟩ := nI_of z
    by_cases q : k < L
    · left
      obtain ⟨b1, b2⟩ := hin k q
      have hm : mSgn F j (nI k) = mLet (F 3 j) (nI k) := by rw [hS, if_neg z, if_neg (nI_ge q (by omega))]
      refine ⟨?_, by rw [hm]; exact b2, ?_⟩
      · split
        · exact okI_lt q (by omega)
        · exact okI_lt (by omega) (by omega)
      · rw [hm, b1, if_pos (nI_lt q (by omega)), nI_clamp hk]
    · have hm : mSgn F j (nI k) = mSgE F j (nI k) := by rw [hS, if_neg z, if_pos (nI_le (by omega) hk)]
      rw [hm, hT]
      by_cases o : F 4 j = -1
      · right
        rw [if_pos o, if_pos o, ite_self]
        exact ⟨okI_ge (by omega) hk, rfl⟩
      · have ho : ¬ N j 1 = -1 := fun y => o (e4.symm.trans y)
        have hst : N j 0 = 2 ∨ N j 0 = 3 ∨ N j 0 = 4 ∨ (N j 0 = 5 ∧ ¬ N j 6 = 1) := by
          rcases hR.st with y | y | y | y | y | y
          · exact absurd (hR.non (Or.inl y)) ho
          · exact absurd (hR.non (Or.inr (Or.inl y))) ho
          · exact Or.inl y
          · exact Or.inr (Or.inl y)
          · exact Or.inr (Or.inr (Or.inl y))
          · exact Or.inr (Or.inr (Or.inr ⟨y, fun y6 => ho (hR.non (Or.inr (Or.inr ⟨y, y6⟩)))⟩))
        have h2 : ¬ F 3 j < 2 := by
          rw [← e3]
          rcases hst with y | y | y | ⟨y, -⟩ <;> rw [y] <;> decide
        obtain ⟨ow, ho6, eo⟩ := hR.own hst
        rw [if_neg o, if_neg o, if_neg h2]
        by_cases k1 : k = L
        · left
          subst k1
          rw [if_pos rfl, if_neg (nI_nlt (Nat.le_refl k) hk), if_neg (fun y => by have := (nI_eq hk (by omega)).mp y; omega)]
          exact ⟨okI_lt (by omega) (by omega), by decide, rfl⟩
        · have c1 : ¬ nI k = nI L := fun y => k1 ((nI_eq hk (by omega)).mp y)
          rw [if_neg c1]
          by_cases k2 : k = L + 1
          · left
            subst k2
            rw [if_pos rfl, if_neg (nI_nlt (by omega) hk), if_pos rfl]
            refine ⟨okI_lt (by omega) (by omega), ?_, rfl⟩
            rw [← e4, eo]; exact own_ch ow ho6
          · right
            have c2 : ¬ nI k = nI (L + 1) := fun y => k2 ((nI_eq hk (by omega)).mp y)
            rw [if_neg c2]
            exact ⟨okI_ge (by omega) hk, rfl⟩
theorem sim_sign (h : REL n D mny N f g rk rf rg rh I1 F) {j : Nat} {p0 p1 : Int32} (hj : j < 16) :
    kSign (N j) p0 p1 = cSign F j p0 p1 ∧ (kSign (N j) p0 p1 = 0 → sSign (N j) p1 = mSgn F j p1 ∧ REL (n + 1) D mny N f g rk rf rg rh (upd I1 17 0) F) := by
  have hI := h.idle 0
  obtain ⟨t, c, -, -, -, -, -, -, -, -, h9, -⟩ := h
  have hR := h9 j hj
  have e3 : N j 0 = F 3 j := hR.1.1
  have e4 : N j 1 = F 4 j := hR.1.2.1
  rw [kSign, cSign, e3, e4]
  rcases sign_key hR p1 with ⟨k1, k2, k3⟩ | ⟨k1, k2⟩
  · rw [if_pos k1, if_neg k2]
    exact ⟨rfl, fun _ => ⟨k3, hI⟩⟩
  · have k3 : ¬ okI p1 (if F 4 j = -1 then nI (wLen (wIx (F 3 j))) else nI (wLen (wIx (F 3 j)) + 1 + 1)) = true := by rw [k1]; decide
    rw [if_neg k3, if_pos k2, ite_self]
    exact ⟨rfl, fun y => absurd y (by decide)⟩
theorem sign_st (h : REL n D mny N f g rk rf rg rh I1 F) {j : Nat} (hj : j < 16) : ∃ s : Nat, s < 6 ∧ F 3 j = nI s := by
  obtain ⟨t, c, -, -, -, -, -, -, -, -, h9, -⟩ := h
  obtain ⟨s, h1, h2⟩ := (h9 j hj).2.1
  exact ⟨s, h1, (h9 j hj).1.1.symm.trans h2⟩
end SIMS
