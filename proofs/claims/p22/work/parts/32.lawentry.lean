/-! THE LAW'S ENTRY: what the tables and the start give -/
abbrev gA (s : State) : Nat → Prop := fun q => s.heap.size ≤ q
def gLC (p : Program) (s : State) (m : MethodId) (c : Code) (b L : Nat) (xs : Nat → Int32) (G : va_G) (T : Nat → ClassId) (aK aV : Nat → Nat) : Prop :=
  p.tables.exec = Jvm.exec ∧ c.code = cL_law ∧ c.maxLocals = 8 ∧ s.vm.findClass RL = some m.cls ∧ (∀ w ∈ wsL_law, w.before #[Value.ref b] s = true) ∧ va_X b L xs s s.heap ∧ b < s.heap.size ∧ va_K G vwCl (gT T) s ∧ gE (gA s) s ∧ gW aK aV (gA s) s ∧ L ≤ 260
theorem gEw_tab : ∀ w ∈ gEw, w.onTables = true := by decide +kernel
theorem gEw_in : ∀ w ∈ gEw, w ∈ lw_tbl := by decide +kernel
theorem kn_i {s : State} {args : Array Value} (h : (Cond.arrayClass .int).before args s = true) : ∃ cA : ClassId, ArrOfT s cA .int ∧ va_RA s cA .int := by
  obtain ⟨cA, kA, comp, h1, h2, h3⟩ := Cond.arrayClass_spec h
  exact ⟨cA, fun n z => ⟨fun k h => (by cases h), kA, h2, comp, h3⟩, h1⟩
theorem kn_z {s : State} {args : Array Value} (h : (Cond.arrayClass .boolean).before args s = true) : ∃ cA : ClassId, ArrOfT s cA .boolean ∧ va_RA s cA .boolean := by
  obtain ⟨cA, kA, comp, h1, h2, h3⟩ := Cond.arrayClass_spec h
  exact ⟨cA, fun n z => ⟨fun k h => (by cases h), kA, h2, comp, h3⟩, h1⟩
theorem kn_q {s : State} {C : String} (h : va_AO C s) : ∃ cA : ClassId, ArrOfT s cA (.object C) ∧ va_RA s cA (.object C) := by
  obtain ⟨comp, cA, kA, h1, h2, h3, h4, h5⟩ := Cond.arrayOver_spec h
  exact ⟨cA, fun n z => ⟨fun k h => (by cases h), kA, h3, comp, h4⟩, kA, comp, h3, h4, h1, h5⟩
theorem law_T {s : State} {args : Array Value} (hi : (Cond.arrayClass .int).before args s = true) (hz : (Cond.arrayClass .boolean).before args s = true) (h0 : va_AO RX0 s) (h1 : va_AO RX1 s) :
    ∃ T : Nat → ClassId, ∀ (k : Nat) (q : ClassId × FieldType), (gT T)[k]? = some q → ArrOfT s q.1 q.2 ∧ va_RA s q.1 q.2 := by
  obtain ⟨t0, a0⟩ := kn_i hi
  obtain ⟨t1, a1⟩ := kn_z hz
  obtain ⟨t2, a2⟩ := kn_q h0
  obtain ⟨t3, a3⟩ := kn_q h1
  refine ⟨fun k => if k = 0 then t0 else if k = 1 then t1 else if k = 2 then t2 else t3, fun k q hq => ?_⟩
  match k, hq with
  | 0, hq => cases hq; exact a0
  | 1, hq => cases hq; exact a1
  | 2, hq => cases hq; exact a2
  | 3, hq => cases hq; exact a3
  | k + 4, hq => simp [gT] at hq
abbrev gFl : List Cond := flatC (Jvm.Cond.and given_1 narrow_1)
theorem str_ex : ∀ i, i < 6 → Cond.exactly (.string RX2 (idxW i)) "java/lang/String" ∈ gFl := by decide +kernel
theorem str_co : ∀ i, i < 6 → Cond.eq (.field (.string RX2 (idxW i)) "java/lang/String" "coder" "B") (.int 0) ∈ gFl := by decide +kernel
theorem str_ar : ∀ i, i < 6 → Cond.arrayOf (.field (.string RX2 (idxW i)) "java/lang/String" "value" "[B") .byte ∈ gFl := by decide +kernel
theorem str_le : ∀ i, i < 6 → Cond.eq (.length (.field (.string RX2 (idxW i)) "java/lang/String" "value" "[B")) (.int (Int32.ofNat (lenW.getD i 0))) ∈ gFl := by decide +kernel
theorem str_el : ∀ i, i < 6 → ∀ j, j < lenW.getD i 0 → Cond.eq (.elem (.field (.string RX2 (idxW i)) "java/lang/String" "value" "[B") (.int (Int32.ofNat j))) (.int ((bytW.getD i []).getD j 0)) ∈ gFl := by decide +kernel
theorem str_ne : ∀ i, i < 6 → ∀ j, j < 6 → i ≠ j → Cond.not (Cond.eq (.string RX2 (idxW i)) (.string RX2 (idxW j))) ∈ gFl ∨ Cond.not (Cond.eq (.string RX2 (idxW j)) (.string RX2 (idxW i))) ∈ gFl := by decide +kernel
theorem str_ref : ∀ i, i < 6 → Cond.stringRef RX2 (idxW i) (txtW i) ∈ lw_tbl := by decide +kernel
theorem str_31 : ∀ i, i < 6 → lenW.getD i 0 < 2 ^ 31 := by decide +kernel
theorem law_gE {s : State} {b : Nat} (hts : ∀ w ∈ lw_tbl, w.before #[Value.ref b] s = true) (hs : ∀ w ∈ gFl, w.before #[Value.ref b] s = true) (hout : ∀ a : Nat, a < s.heap.size → ¬ gA s a) : gE (gA s) s :=
  ⟨fun w hw => va_Nw.of (gEw_tab w hw) (hts w (gEw_in w hw)),
    ⟨va_Nc.of (hs (.not (.castable eIA eIO)) (by decide +kernel)), va_Nc.of (hs (.not (.castable eIS eIO)) (by decide +kernel)), va_Nc.of (hs (.not (.castable eIS eIA)) (by decide +kernel))⟩,
    vx_Zqof (hts (.laysStatic Bundle.tN "UNASSIGNED_STACK" Bundle.steD) (by decide +kernel)) (hts (.initialized Bundle.tN) (by decide +kernel)) (hs (.isRef (.static Bundle.tN "UNASSIGNED_STACK" Bundle.steD)) (by decide +kernel)) hout,
    vx_Zqof (hts (.laysStatic Bundle.tN "SUPPRESSED_SENTINEL" Bundle.listD) (by decide +kernel)) (hts (.initialized Bundle.tN) (by decide +kernel)) (hs (.isRef (.static Bundle.tN "SUPPRESSED_SENTINEL" Bundle.listD)) (by decide +kernel)) hout⟩
theorem law_gW {s : State} {b : Nat} (hts : ∀ w ∈ lw_tbl, w.before #[Value.ref b] s = true) (hs : ∀ w ∈ gFl, w.before #[Value.ref b] s = true) (hout : ∀ a : Nat, a < s.heap.size → ¬ gA s a) : ∃ aK aV : Nat → Nat, gW aK aV (gA s) s := by
  obtain ⟨aK, aV, hV, hEv⟩ := vk_Sof (args := #[Value.ref b]) (s := s) (N := 6) (tm := fun i => .string RX2 (idxW i)) (len := lenW) (byt := bytW) (A := gA s) str_31 (fun i hi => hs _ (str_ex i hi)) (fun i hi => hs _ (str_co i hi)) (fun i hi => hs _ (str_ar i hi)) (fun i hi => hs _ (str_le i hi)) (fun i hi j hj => hs _ (str_el i hi j hj))
    (fun i j hi hj hij => (str_ne i hi j hj hij).elim (fun h => Or.inl (hs _ h)) (fun h => Or.inr (hs _ h))) hout
  exact ⟨aK, aV, hV, fun i hi => vk_R.of (hts _ (str_ref i hi)) (hEv i hi),
    va_Zof (hts (.laysStatic RJ0 "COMPACT_STRINGS" "Z") (by decide +kernel)) (hts (.initialized RJ0) (by decide +kernel)) (va_eqt (hs (.eq (.static RJ0 "COMPACT_STRINGS" "Z") (.int 1)) (by decide +kernel))) hout,
    va_Zqof (hts (.laysStatic RJ3 "SIOOBE_FORMATTER" "Ljava/util/function/BiFunction;") (by decide +kernel)) (hts (.initialized RJ3) (by decide +kernel)) (hs (.isRef (.static RJ3 "SIOOBE_FORMATTER" "Ljava/util/function/BiFunction;")) (by decide +kernel)) hout⟩
theorem law_G {s : State} {b : Nat} (hts : ∀ w ∈ lw_tbl, w.before #[Value.ref b] s = true) : ∃ G : va_G, ∀ (k : Nat) (q : vw_C), vwCl[k]? = some q → u_Kn s q.1 q.2.1 q.2.2 (G.1 k) (G.2 k) := by
  obtain ⟨c0, i0, k0⟩ := u_known (C := RX0) (T := TX0) (N := 11) (n := 11) hts inX0 (hts (.instantiable RX0 11) (by decide +kernel))
  obtain ⟨c1, i1, k1⟩ := u_known (C := RX1) (T := TX1) (N := 4) (n := 4) hts inX1 (hts (.instantiable RX1 4) (by decide +kernel))
  obtain ⟨c2, i2, k2⟩ := u_known (C := RX2) (T := TX2) (N := 6) (n := 6) hts inX2 (hts (.instantiable RX2 6) (by decide +kernel))
  refine ⟨(fun k => if k = 0 then c0 else if k = 1 then c1 else c2, fun k => if k = 0 then i0 else if k = 1 then i1 else i2), fun k q hq => ?_⟩
  match k, hq with
  | 0, hq => cases hq; exact k0
  | 1, hq => cases hq; exact k1
  | 2, hq => cases hq; exact k2
  | k + 3, hq => simp [vwCl] at hq
theorem law_ctx {p : Program} {s : State} {m : MethodId} {meth : Method} {c : Code} {b L : Nat} {xs : Nat → Int32} (hL : L ≤ 260) (C0 : lw_At p s m meth c b L xs) : ∃ (G : va_G) (T : Nat → ClassId) (aK aV : Nat → Nat), gLC p s m c b L xs G T aK aV ∧ va_AO RX0 s ∧ va_AO RX1 s := by
  obtain ⟨hx, hb, hr, hml, hown, hts, hX, hbl, hlocks, hgv⟩ := C0
  have hs : ∀ w ∈ gFl, w.before #[Value.ref b] s = true := flat_of_before _ hgv
  have hout : ∀ a : Nat, a < s.heap.size → ¬ gA s a := fun a h => Nat.not_le.mpr h
  have hO0 : va_AO RX0 s := va_AO.of (hts (.arrayOver (.object RX0)) (by decide +kernel))
  have hO1 : va_AO RX1 s := va_AO.of (hts (.arrayOver (.object RX1)) (by decide +kernel))
  obtain ⟨T, hT⟩ := law_T (hts (.arrayClass .int) (by decide +kernel)) (hts (.arrayClass .boolean) (by decide +kernel)) hO0 hO1
  obtain ⟨G, hG⟩ := law_G hts
  obtain ⟨aK, aV, hW⟩ := law_gW hts hs hout
  exact ⟨G, T, aK, aV, ⟨hx, hb, hml, hown, fun w hw => hts w (wsL_law_in w hw), hX, hbl, ⟨hG, hT⟩, law_gE hts hs hout, hW, hL⟩, hO0, hO1⟩
