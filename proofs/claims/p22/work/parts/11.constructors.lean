/-! CONSTRUCTORS of a name, a resolver, the reference -/
theorem gT_of {G : va_G} {T : Nat → ClassId} {s : State} {cA : ClassId} {ty : FieldType} (k : Nat) (hk : (gT T)[k]? = some (T k, ty)) (h : va_K G vwCl (gT T ++ [(cA, ty)]) s) : cA = T k := by
  have hl : k < (gT T).length := (List.getElem?_eq_some_iff.mp hk).1
  have h1 := (h.2 k (T k, ty) (by rw [List.getElem?_append_left hl]; exact hk)).2
  have h2 := (h.2 (gT T).length (cA, ty) (by rw [List.getElem?_append_right (Nat.le_refl _), Nat.sub_self]; rfl)).2
  cases ty <;> first | exact Option.some.inj (h2.symm.trans h1) | (obtain ⟨-, -, -, -, -, e1⟩ := h1; obtain ⟨-, -, -, -, -, e2⟩ := h2; exact Option.some.inj (e2.symm.trans e1))
theorem gT_i {G : va_G} {T : Nat → ClassId} {s : State} {cA : ClassId} (h : va_K G vwCl (gT T ++ [(cA, .int)]) s) : cA = T 0 := gT_of 0 rfl h
theorem gT_z {G : va_G} {T : Nat → ClassId} {s : State} {cA : ClassId} (h : va_K G vwCl (gT T ++ [(cA, .boolean)]) s) : cA = T 1 := gT_of 1 rfl h
theorem gT_n {G : va_G} {T : Nat → ClassId} {s : State} {cA : ClassId} (h : va_K G vwCl (gT T ++ [(cA, .object RX0)]) s) : cA = T 2 := gT_of 2 rfl h
theorem gT_r {G : va_G} {T : Nat → ClassId} {s : State} {cA : ClassId} (h : va_K G vwCl (gT T ++ [(cA, .object RX1)]) s) : cA = T 3 := gT_of 3 rfl h
/-- behind a constructor: its world, with what it made -/
def gN (G : va_G) (A : Nat → Prop) (W1 : va_W) (t : State) : Prop := va_P G vwCl W1 t.heap ∧ va_D A W1
theorem gBn {G : va_G} {A : Nat → Prop} {W1 : va_W} {t : State} (h : gB G W1 () t) (hD : va_D A W1) : gN G A W1 t := ⟨h, hD⟩
abbrev PX0_init (G : va_G) (T : Nat → ClassId) (x1 : Nat) (sz : Nat) : Array Value → State → Prop := gPc G T [.ref x1] ([(x1, .inr (0, [.int 0, .int 0, .int 0, .int 0, .int 0, .int 0, .int 0, .int 0, .int 0, .null, .null]))]) sz
abbrev QX0_init (G : va_G) (T : Nat → ClassId) (x1 : Nat) (sz : Nat) : Array Value → State → Outcome → State → Prop := va_Qv (fun _ : Nat × Nat => True) (fun u t => gN G (va_A ([(x1, .inr (0, [.int 0, .int 0, .int 0, .int 0, .int 0, .int 0, .int 0, .int 0, .int 0, .null, .null]))]) sz) (cN T x1 u.1 u.2 (upd (fun _ => 0) 1 (-1)) (fun _ => 0) (fun _ => 0)) t) (va_A ([(x1, .inr (0, [.int 0, .int 0, .int 0, .int 0, .int 0, .int 0, .int 0, .int 0, .int 0, .null, .null]))]) sz)
set_option maxHeartbeats 4000000 in
set_option maxRecDepth 100000 in
theorem kX0_init (l : Launch) (G : va_G) (T : Nat → ClassId) (x1 : Nat) (sz : Nat)  : Met l yX0_init wsX0_init ({ frames := 1, cells := 2, slots := 12, locals := 12 } : Room) (PX0_init G T x1 sz) (QX0_init G T x1 sz) 2 12 (va_A ([(x1, .inr (0, [.int 0, .int 0, .int 0, .int 0, .int 0, .int 0, .int 0, .int 0, .int 0, .null, .null]))]) sz) := by
  refine Met.ofW (cc := cX0_init) (maxL := 1) (ret := none) (by decide) rfl ?_
  intro p e s m args below meth c s₁ B hml hv
  obtain ⟨rfl, hsz, hP, hK, hD0, hE⟩ := hv
  have hx := B.exec
  have hb := B.bytes
  have hr := B.returns
  have hts := atoms_spec (ws := wsX0_init) B.pre
  have hown : s.vm.findClass RX0 = some m.cls := findClass_of_methodNamed B.named
  have hlocks := B.notSynchronized
  have hin : meth.name = "<init>" := (name_of_methodNamed B.named B.method).1
  subst hsz
  have hD := hD0.self (sz := s.heap.size)
  have hA : ∀ q : Nat, s.heap.size ≤ q → (va_A ([(x1, .inr (0, [.int 0, .int 0, .int 0, .int 0, .int 0, .int 0, .int 0, .int 0, .int 0, .null, .null]))]) s.heap.size) q := fun q h => Or.inr h
  have hS : va_S (va_A ([(x1, .inr (0, [.int 0, .int 0, .int 0, .int 0, .int 0, .int 0, .int 0, .int 0, .int 0, .null, .null]))]) s.heap.size) s.heap s.heap [] := va_S.rf
  have hiRX0 : ∀ w ∈ u_ws RX0 TX0 11, w ∈ wsX0_init := by decide +kernel
  have hl := lv_entry ([.ref x1]) (n := 1) (Nat.le_of_ble_eq_true rfl)
  rw [lg_entry_eq]
  generalize (lg_sl ([.ref x1]) ++ List.replicate (1 - (lg_sl ([.ref x1])).length) Slot.unset).toArray = ls at hl ⊢
  have hl : lv_has ls 1 [(0, .ref x1)] := hl
  have hP : va_P G vwCl ([(x1, .inr (0, [.int 0, .int 0, .int 0, .int 0, .int 0, .int 0, .int 0, .int 0, .int 0, .null, .null]))]) s.heap := hP
  refine lv_aload_n hx hb dX0_init_0 rfl (lv_at hl 0 rfl) ?_
  refine W.objInit hx hb hown (hts (.methodLink RX0 3 objectInit) (by decide +kernel)) (hts (.instanceMethod objectInit) (by decide +kernel)) (hts (.code objectInit ⟨#[0xb1]⟩ 1 none) (by decide +kernel)) rfl (by rw [hml]; exact hl.1) rfl dX0_init_1 (Nat.le_of_ble_eq_true rfl) (Nat.le_of_ble_eq_true rfl) ?_
  refine W.eq (g2 := F0 m 4 ls []) rfl ?_
  refine lv_aload_n hx hb dX0_init_4 rfl (lv_at hl 0 rfl) ?_
  refine lv_iconst (v := 0) hx hb dX0_init_5 (by decide) ?_
  refine va_put (D := G) (ci := 0) (v := .int 0) (ty := .int) (C := RX0) (T := TX0) (N := 11) hx hb hts hiRX0 tyX0 tyX0_ok nmX0 hown hK hP hD hS 0 rfl rfl 0 (by decide) (hts (.fieldLink RX0 9 "NameAuction$Name" "phase" "I") (by decide +kernel)) (fun _ h9 => h9) rfl (by decide +kernel) rfl rfl (Nat.le_of_ble_eq_true rfl) dX0_init_6 (fun H locs hP hD hS => ?_)
  have hP : va_P G vwCl ([(x1, .inr (0, [.int 0, .int 0, .int 0, .int 0, .int 0, .int 0, .int 0, .int 0, .int 0, .null, .null]))]) H := hP
  have hD : va_D (va_A ([(x1, .inr (0, [.int 0, .int 0, .int 0, .int 0, .int 0, .int 0, .int 0, .int 0, .int 0, .null, .null]))]) s.heap.size) ([(x1, .inr (0, [.int 0, .int 0, .int 0, .int 0, .int 0, .int 0, .int 0, .int 0, .int 0, .null, .null]))]) := hD
  refine lv_aload_n hx hb dX0_init_9 rfl (lv_at hl 0 rfl) ?_
  refine lv_iconst (v := (-1)) hx hb dX0_init_10 (by decide) ?_
  refine va_put (D := G) (ci := 0) (v := .int (-1)) (ty := .int) (C := RX0) (T := TX0) (N := 11) hx hb hts hiRX0 tyX0 tyX0_ok nmX0 hown hK hP hD hS 0 rfl rfl 1 (by decide) (hts (.fieldLink RX0 15 "NameAuction$Name" "holder" "I") (by decide +kernel)) (fun _ h9 => h9) rfl (by decide +kernel) rfl rfl (Nat.le_of_ble_eq_true rfl) dX0_init_11 (fun H locs hP hD hS => ?_)
  have hP : va_P G vwCl ([(x1, .inr (0, [.int 0, .int (-1), .int 0, .int 0, .int 0, .int 0, .int 0, .int 0, .int 0, .null, .null]))]) H := hP
  have hD : va_D (va_A ([(x1, .inr (0, [.int 0, .int 0, .int 0, .int 0, .int 0, .int 0, .int 0, .int 0, .int 0, .null, .null]))]) s.heap.size) ([(x1, .inr (0, [.int 0, .int (-1), .int 0, .int 0, .int 0, .int 0, .int 0, .int 0, .int 0, .null, .null]))]) := hD
  refine lv_aload_n hx hb dX0_init_14 rfl (lv_at hl 0 rfl) ?_
  refine lv_bipush (v := 6) hx hb dX0_init_15 (by decide) ?_
  refine va_newa (atype := .int) (ty := .int) (a0 := (6, .inl (fun _ => 0))) (N' := 6) hx hb (hts (.arrayClass .int) (by decide +kernel)) rfl hK hP hD hS hA (fun _ => rfl) (by decide) (by decide) (by decide) (Nat.le_of_ble_eq_true rfl) (Nat.le_of_ble_eq_true rfl) dX0_init_17 (fun q_1 cA9 H hK9 hP hD hS => ?_)
  have eT9 := gT_i hK9
  subst eT9
  have hP : va_P G vwCl (([(x1, .inr (0, [.int 0, .int (-1), .int 0, .int 0, .int 0, .int 0, .int 0, .int 0, .int 0, .null, .null]))]) ++ ([(q_1, .inl (T 0, 6, .inl (fun _ => 0)))])) H := hP
  have hD : va_D (va_A ([(x1, .inr (0, [.int 0, .int 0, .int 0, .int 0, .int 0, .int 0, .int 0, .int 0, .int 0, .null, .null]))]) s.heap.size) (([(x1, .inr (0, [.int 0, .int (-1), .int 0, .int 0, .int 0, .int 0, .int 0, .int 0, .int 0, .null, .null]))]) ++ ([(q_1, .inl (T 0, 6, .inl (fun _ => 0)))])) := hD
  refine va_putF (D := G) (ci := 0) (v := .ref q_1) (ty := .array .int) (C := RX0) (T := TX0) (N := 11) hx hb hts hiRX0 tyX0 tyX0_ok nmX0 hown hK hP hD hS 0 rfl rfl 9 (by decide) (hts (.fieldLink RX0 18 "NameAuction$Name" "amounts" "[I") (by decide +kernel)) (fun _ h9 => h9) rfl hin rfl (by decide +kernel) rfl rfl (Nat.le_of_ble_eq_true rfl) dX0_init_19 (fun H locs hP hD hS => ?_)
  have hP : va_P G vwCl (([(x1, .inr (0, [.int 0, .int (-1), .int 0, .int 0, .int 0, .int 0, .int 0, .int 0, .int 0, .ref q_1, .null]))]) ++ ([(q_1, .inl (T 0, 6, .inl (fun _ => 0)))])) H := hP
  have hD : va_D (va_A ([(x1, .inr (0, [.int 0, .int 0, .int 0, .int 0, .int 0, .int 0, .int 0, .int 0, .int 0, .null, .null]))]) s.heap.size) (([(x1, .inr (0, [.int 0, .int (-1), .int 0, .int 0, .int 0, .int 0, .int 0, .int 0, .int 0, .ref q_1, .null]))]) ++ ([(q_1, .inl (T 0, 6, .inl (fun _ => 0)))])) := hD
  refine lv_aload_n hx hb dX0_init_22 rfl (lv_at hl 0 rfl) ?_
  refine lv_bipush (v := 6) hx hb dX0_init_23 (by decide) ?_
  refine va_newa (atype := .int) (ty := .int) (a0 := (6, .inl (fun _ => 0))) (N' := 6) hx hb (hts (.arrayClass .int) (by decide +kernel)) rfl hK hP hD hS hA (fun _ => rfl) (by decide) (by decide) (by decide) (Nat.le_of_ble_eq_true rfl) (Nat.le_of_ble_eq_true rfl) dX0_init_25 (fun q_2 cA9 H hK9 hP hD hS => ?_)
  have eT9 := gT_i hK9
  subst eT9
  have hP : va_P G vwCl (([(x1, .inr (0, [.int 0, .int (-1), .int 0, .int 0, .int 0, .int 0, .int 0, .int 0, .int 0, .ref q_1, .null]))]) ++ ([(q_1, .inl (T 0, 6, .inl (fun _ => 0)))]) ++ ([(q_2, .inl (T 0, 6, .inl (fun _ => 0)))])) H := hP
  have hD : va_D (va_A ([(x1, .inr (0, [.int 0, .int 0, .int 0, .int 0, .int 0, .int 0, .int 0, .int 0, .int 0, .null, .null]))]) s.heap.size) (([(x1, .inr (0, [.int 0, .int (-1), .int 0, .int 0, .int 0, .int 0, .int 0, .int 0, .int 0, .ref q_1, .null]))]) ++ ([(q_1, .inl (T 0, 6, .inl (fun _ => 0)))]) ++ ([(q_2, .inl (T 0, 6, .inl (fun _ => 0)))])) := hD
  refine va_putF (D := G) (ci := 0) (v := .ref q_2) (ty := .array .int) (C := RX0) (T := TX0) (N := 11) hx hb hts hiRX0 tyX0 tyX0_ok nmX0 hown hK hP hD hS 0 rfl rfl 10 (by decide) (hts (.fieldLink RX0 22 "NameAuction$Name" "turns" "[I") (by decide +kernel)) (fun _ h9 => h9) rfl hin rfl (by decide +kernel) rfl rfl (Nat.le_of_ble_eq_true rfl) dX0_init_27 (fun H locs hP hD hS => ?_)
  have hP : va_P G vwCl (([(x1, .inr (0, [.int 0, .int (-1), .int 0, .int 0, .int 0, .int 0, .int 0, .int 0, .int 0, .ref q_1, .ref q_2]))]) ++ ([(q_1, .inl (T 0, 6, .inl (fun _ => 0)))]) ++ ([(q_2, .inl (T 0, 6, .inl (fun _ => 0)))])) H := hP
  have hD : va_D (va_A ([(x1, .inr (0, [.int 0, .int 0, .int 0, .int 0, .int 0, .int 0, .int 0, .int 0, .int 0, .null, .null]))]) s.heap.size) (([(x1, .inr (0, [.int 0, .int (-1), .int 0, .int 0, .int 0, .int 0, .int 0, .int 0, .int 0, .ref q_1, .ref q_2]))]) ++ ([(q_1, .inl (T 0, 6, .inl (fun _ => 0)))]) ++ ([(q_2, .inl (T 0, 6, .inl (fun _ => 0)))])) := hD
  exact W.vret hx hb hr (fun t ht9 hW => ⟨⟨(q_1, q_2), rfl, trivial, gBn (gBi ht9 (gfin hP (rfl))) (gfinD hD (rfl))⟩, hS.F ht9⟩) hS.2.2 dX0_init_30
abbrev PX1_init (G : va_G) (T : Nat → ClassId) (x1 : Nat) (sz : Nat) : Array Value → State → Prop := gPc G T [.ref x1] ([(x1, .inr (1, [.null, .null, .null, .null]))]) sz
abbrev QX1_init (G : va_G) (T : Nat → ClassId) (x1 : Nat) (sz : Nat) : Array Value → State → Outcome → State → Prop := va_Qv (fun _ : Nat × Nat × Nat × Nat => True) (fun u t => gN G (va_A ([(x1, .inr (1, [.null, .null, .null, .null]))]) sz) (cR T x1 u.1 u.2.1 u.2.2.1 u.2.2.2 (fun _ => 0) (fun _ => 0) (fun _ => 0) (fun _ => 0)) t) (va_A ([(x1, .inr (1, [.null, .null, .null, .null]))]) sz)
set_option maxHeartbeats 4000000 in
set_option maxRecDepth 100000 in
theorem kX1_init (l : Launch) (G : va_G) (T : Nat → ClassId) (x1 : Nat) (sz : Nat)  : Met l yX1_init wsX1_init ({ frames := 1, cells := 4, slots := 64, locals := 12 } : Room) (PX1_init G T x1 sz) (QX1_init G T x1 sz) 4 64 (va_A ([(x1, .inr (1, [.null, .null, .null, .null]))]) sz) := by
  refine Met.ofW (cc := cX1_init) (maxL := 1) (ret := none) (by decide) rfl ?_
  intro p e s m args below meth c s₁ B hml hv
  obtain ⟨rfl, hsz, hP, hK, hD0, hE⟩ := hv
  have hx := B.exec
  have hb := B.bytes
  have hr := B.returns
  have hts := atoms_spec (ws := wsX1_init) B.pre
  have hown : s.vm.findClass RX1 = some m.cls := findClass_of_methodNamed B.named
  have hlocks := B.notSynchronized
  have hin : meth.name = "<init>" := (name_of_methodNamed B.named B.method).1
  subst hsz
  have hD := hD0.self (sz := s.heap.size)
  have hA : ∀ q : Nat, s.heap.size ≤ q → (va_A ([(x1, .inr (1, [.null, .null, .null, .null]))]) s.heap.size) q := fun q h => Or.inr h
  have hS : va_S (va_A ([(x1, .inr (1, [.null, .null, .null, .null]))]) s.heap.size) s.heap s.heap [] := va_S.rf
  have hiRX1 : ∀ w ∈ u_ws RX1 TX1 4, w ∈ wsX1_init := by decide +kernel
  have hl := lv_entry ([.ref x1]) (n := 1) (Nat.le_of_ble_eq_true rfl)
  rw [lg_entry_eq]
  generalize (lg_sl ([.ref x1]) ++ List.replicate (1 - (lg_sl ([.ref x1])).length) Slot.unset).toArray = ls at hl ⊢
  have hl : lv_has ls 1 [(0, .ref x1)] := hl
  have hP : va_P G vwCl ([(x1, .inr (1, [.null, .null, .null, .null]))]) s.heap := hP
  refine lv_aload_n hx hb dX1_init_0 rfl (lv_at hl 0 rfl) ?_
  refine W.objInit hx hb hown (hts (.methodLink RX1 3 objectInit) (by decide +kernel)) (hts (.instanceMethod objectInit) (by decide +kernel)) (hts (.code objectInit ⟨#[0xb1]⟩ 1 none) (by decide +kernel)) rfl (by rw [hml]; exact hl.1) rfl dX1_init_1 (Nat.le_of_ble_eq_true rfl) (Nat.le_of_ble_eq_true rfl) ?_
  refine W.eq (g2 := F0 m 4 ls []) rfl ?_
  refine lv_aload_n hx hb dX1_init_4 rfl (lv_at hl 0 rfl) ?_
  refine lv_bipush (v := 16) hx hb dX1_init_5 (by decide) ?_
  refine va_newa (atype := .boolean) (ty := .boolean) (a0 := (16, .inl (fun _ => 0))) (N' := 16) hx hb (hts (.arrayClass .boolean) (by decide +kernel)) rfl hK hP hD hS hA (fun _ => rfl) (by decide) (by decide) (by decide) (Nat.le_of_ble_eq_true rfl) (Nat.le_of_ble_eq_true rfl) dX1_init_7 (fun q_1 cA9 H hK9 hP hD hS => ?_)
  have eT9 := gT_z hK9
  subst eT9
  have hP : va_P G vwCl (([(x1, .inr (1, [.null, .null, .null, .null]))]) ++ ([(q_1, .inl (T 1, 16, .inl (fun _ => 0)))])) H := hP
  have hD : va_D (va_A ([(x1, .inr (1, [.null, .null, .null, .null]))]) s.heap.size) (([(x1, .inr (1, [.null, .null, .null, .null]))]) ++ ([(q_1, .inl (T 1, 16, .inl (fun _ => 0)))])) := hD
  refine va_putF (D := G) (ci := 1) (v := .ref q_1) (ty := .array .boolean) (C := RX1) (T := TX1) (N := 4) hx hb hts hiRX1 tyX1 tyX1_ok nmX1 hown hK hP hD hS 0 rfl rfl 0 (by decide) (hts (.fieldLink RX1 9 "NameAuction$Resolver" "kept" "[Z") (by decide +kernel)) (fun _ h9 => h9) rfl hin rfl (by decide +kernel) rfl rfl (Nat.le_of_ble_eq_true rfl) dX1_init_9 (fun H locs hP hD hS => ?_)
  have hP : va_P G vwCl (([(x1, .inr (1, [.ref q_1, .null, .null, .null]))]) ++ ([(q_1, .inl (T 1, 16, .inl (fun _ => 0)))])) H := hP
  have hD : va_D (va_A ([(x1, .inr (1, [.null, .null, .null, .null]))]) s.heap.size) (([(x1, .inr (1, [.ref q_1, .null, .null, .null]))]) ++ ([(q_1, .inl (T 1, 16, .inl (fun _ => 0)))])) := hD
  refine lv_aload_n hx hb dX1_init_12 rfl (lv_at hl 0 rfl) ?_
  refine lv_bipush (v := 16) hx hb dX1_init_13 (by decide) ?_
  refine va_newa (atype := .int) (ty := .int) (a0 := (16, .inl (fun _ => 0))) (N' := 16) hx hb (hts (.arrayClass .int) (by decide +kernel)) rfl hK hP hD hS hA (fun _ => rfl) (by decide) (by decide) (by decide) (Nat.le_of_ble_eq_true rfl) (Nat.le_of_ble_eq_true rfl) dX1_init_15 (fun q_2 cA9 H hK9 hP hD hS => ?_)
  have eT9 := gT_i hK9
  subst eT9
  have hP : va_P G vwCl (([(x1, .inr (1, [.ref q_1, .null, .null, .null]))]) ++ ([(q_1, .inl (T 1, 16, .inl (fun _ => 0)))]) ++ ([(q_2, .inl (T 0, 16, .inl (fun _ => 0)))])) H := hP
  have hD : va_D (va_A ([(x1, .inr (1, [.null, .null, .null, .null]))]) s.heap.size) (([(x1, .inr (1, [.ref q_1, .null, .null, .null]))]) ++ ([(q_1, .inl (T 1, 16, .inl (fun _ => 0)))]) ++ ([(q_2, .inl (T 0, 16, .inl (fun _ => 0)))])) := hD
  refine va_putF (D := G) (ci := 1) (v := .ref q_2) (ty := .array .int) (C := RX1) (T := TX1) (N := 4) hx hb hts hiRX1 tyX1 tyX1_ok nmX1 hown hK hP hD hS 0 rfl rfl 1 (by decide) (hts (.fieldLink RX1 15 "NameAuction$Resolver" "answers" "[I") (by decide +kernel)) (fun _ h9 => h9) rfl hin rfl (by decide +kernel) rfl rfl (Nat.le_of_ble_eq_true rfl) dX1_init_17 (fun H locs hP hD hS => ?_)
  have hP : va_P G vwCl (([(x1, .inr (1, [.ref q_1, .ref q_2, .null, .null]))]) ++ ([(q_1, .inl (T 1, 16, .inl (fun _ => 0)))]) ++ ([(q_2, .inl (T 0, 16, .inl (fun _ => 0)))])) H := hP
  have hD : va_D (va_A ([(x1, .inr (1, [.null, .null, .null, .null]))]) s.heap.size) (([(x1, .inr (1, [.ref q_1, .ref q_2, .null, .null]))]) ++ ([(q_1, .inl (T 1, 16, .inl (fun _ => 0)))]) ++ ([(q_2, .inl (T 0, 16, .inl (fun _ => 0)))])) := hD
  refine lv_aload_n hx hb dX1_init_20 rfl (lv_at hl 0 rfl) ?_
  refine lv_bipush (v := 16) hx hb dX1_init_21 (by decide) ?_
  refine va_newa (atype := .int) (ty := .int) (a0 := (16, .inl (fun _ => 0))) (N' := 16) hx hb (hts (.arrayClass .int) (by decide +kernel)) rfl hK hP hD hS hA (fun _ => rfl) (by decide) (by decide) (by decide) (Nat.le_of_ble_eq_true rfl) (Nat.le_of_ble_eq_true rfl) dX1_init_23 (fun q_3 cA9 H hK9 hP hD hS => ?_)
  have eT9 := gT_i hK9
  subst eT9
  have hP : va_P G vwCl (([(x1, .inr (1, [.ref q_1, .ref q_2, .null, .null]))]) ++ ([(q_1, .inl (T 1, 16, .inl (fun _ => 0)))]) ++ ([(q_2, .inl (T 0, 16, .inl (fun _ => 0)))]) ++ ([(q_3, .inl (T 0, 16, .inl (fun _ => 0)))])) H := hP
  have hD : va_D (va_A ([(x1, .inr (1, [.null, .null, .null, .null]))]) s.heap.size) (([(x1, .inr (1, [.ref q_1, .ref q_2, .null, .null]))]) ++ ([(q_1, .inl (T 1, 16, .inl (fun _ => 0)))]) ++ ([(q_2, .inl (T 0, 16, .inl (fun _ => 0)))]) ++ ([(q_3, .inl (T 0, 16, .inl (fun _ => 0)))])) := hD
  refine va_putF (D := G) (ci := 1) (v := .ref q_3) (ty := .array .int) (C := RX1) (T := TX1) (N := 4) hx hb hts hiRX1 tyX1 tyX1_ok nmX1 hown hK hP hD hS 0 rfl rfl 2 (by decide) (hts (.fieldLink RX1 19 "NameAuction$Resolver" "lifetimes" "[I") (by decide +kernel)) (fun _ h9 => h9) rfl hin rfl (by decide +kernel) rfl rfl (Nat.le_of_ble_eq_true rfl) dX1_init_25 (fun H locs hP hD hS => ?_)
  have hP : va_P G vwCl (([(x1, .inr (1, [.ref q_1, .ref q_2, .ref q_3, .null]))]) ++ ([(q_1, .inl (T 1, 16, .inl (fun _ => 0)))]) ++ ([(q_2, .inl (T 0, 16, .inl (fun _ => 0)))]) ++ ([(q_3, .inl (T 0, 16, .inl (fun _ => 0)))])) H := hP
  have hD : va_D (va_A ([(x1, .inr (1, [.null, .null, .null, .null]))]) s.heap.size) (([(x1, .inr (1, [.ref q_1, .ref q_2, .ref q_3, .null]))]) ++ ([(q_1, .inl (T 1, 16, .inl (fun _ => 0)))]) ++ ([(q_2, .inl (T 0, 16, .inl (fun _ => 0)))]) ++ ([(q_3, .inl (T 0, 16, .inl (fun _ => 0)))])) := hD
  refine lv_aload_n hx hb dX1_init_28 rfl (lv_at hl 0 rfl) ?_
  refine lv_bipush (v := 16) hx hb dX1_init_29 (by decide) ?_
  refine va_newa (atype := .int) (ty := .int) (a0 := (16, .inl (fun _ => 0))) (N' := 16) hx hb (hts (.arrayClass .int) (by decide +kernel)) rfl hK hP hD hS hA (fun _ => rfl) (by decide) (by decide) (by decide) (Nat.le_of_ble_eq_true rfl) (Nat.le_of_ble_eq_true rfl) dX1_init_31 (fun q_4 cA9 H hK9 hP hD hS => ?_)
  have eT9 := gT_i hK9
  subst eT9
  have hP : va_P G vwCl (([(x1, .inr (1, [.ref q_1, .ref q_2, .ref q_3, .null]))]) ++ ([(q_1, .inl (T 1, 16, .inl (fun _ => 0)))]) ++ ([(q_2, .inl (T 0, 16, .inl (fun _ => 0)))]) ++ ([(q_3, .inl (T 0, 16, .inl (fun _ => 0)))]) ++ ([(q_4, .inl (T 0, 16, .inl (fun _ => 0)))])) H := hP
  have hD : va_D (va_A ([(x1, .inr (1, [.null, .null, .null, .null]))]) s.heap.size) (([(x1, .inr (1, [.ref q_1, .ref q_2, .ref q_3, .null]))]) ++ ([(q_1, .inl (T 1, 16, .inl (fun _ => 0)))]) ++ ([(q_2, .inl (T 0, 16, .inl (fun _ => 0)))]) ++ ([(q_3, .inl (T 0, 16, .inl (fun _ => 0)))]) ++ ([(q_4, .inl (T 0, 16, .inl (fun _ => 0)))])) := hD
  refine va_putF (D := G) (ci := 1) (v := .ref q_4) (ty := .array .int) (C := RX1) (T := TX1) (N := 4) hx hb hts hiRX1 tyX1 tyX1_ok nmX1 hown hK hP hD hS 0 rfl rfl 3 (by decide) (hts (.fieldLink RX1 22 "NameAuction$Resolver" "takenOn" "[I") (by decide +kernel)) (fun _ h9 => h9) rfl hin rfl (by decide +kernel) rfl rfl (Nat.le_of_ble_eq_true rfl) dX1_init_33 (fun H locs hP hD hS => ?_)
  have hP : va_P G vwCl (([(x1, .inr (1, [.ref q_1, .ref q_2, .ref q_3, .ref q_4]))]) ++ ([(q_1, .inl (T 1, 16, .inl (fun _ => 0)))]) ++ ([(q_2, .inl (T 0, 16, .inl (fun _ => 0)))]) ++ ([(q_3, .inl (T 0, 16, .inl (fun _ => 0)))]) ++ ([(q_4, .inl (T 0, 16, .inl (fun _ => 0)))])) H := hP
  have hD : va_D (va_A ([(x1, .inr (1, [.null, .null, .null, .null]))]) s.heap.size) (([(x1, .inr (1, [.ref q_1, .ref q_2, .ref q_3, .ref q_4]))]) ++ ([(q_1, .inl (T 1, 16, .inl (fun _ => 0)))]) ++ ([(q_2, .inl (T 0, 16, .inl (fun _ => 0)))]) ++ ([(q_3, .inl (T 0, 16, .inl (fun _ => 0)))]) ++ ([(q_4, .inl (T 0, 16, .inl (fun _ => 0)))])) := hD
  exact W.vret hx hb hr (fun t ht9 hW => ⟨⟨(q_1, q_2, q_3, q_4), rfl, trivial, gBn (gBi ht9 (gfin hP (rfl))) (gfinD hD (rfl))⟩, hS.F ht9⟩) hS.2.2 dX1_init_36
