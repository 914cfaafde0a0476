/-! THE CLASS'S CONSTRUCTOR: rows of names and of resolvers as they grow -/
abbrev nI0 : Nat → Int32 := upd (fun _ => 0) 1 (-1)
def cNp (T : Nat → ClassId) (y1 y2 y3 : Nat → Nat) : Nat → va_W
  | 0 => []
  | i + 1 => cNp T y1 y2 y3 i ++ cN T (y1 i) (y2 i) (y3 i) nI0 (fun _ => 0) (fun _ => 0)
def cRp (T : Nat → ClassId) (z1 z2 z3 z4 z5 : Nat → Nat) : Nat → va_W
  | 0 => []
  | i + 1 => cRp T z1 z2 z3 z4 z5 i ++ cR T (z1 i) (z2 i) (z3 i) (z4 i) (z5 i) (fun _ => 0) (fun _ => 0) (fun _ => 0) (fun _ => 0)
theorem cNp_len {T : Nat → ClassId} {y1 y2 y3 : Nat → Nat} : ∀ i, (cNp T y1 y2 y3 i).length = 3 * i
  | 0 => rfl
  | i + 1 => by rw [cNp, List.length_append, cNp_len i]; rfl
theorem cRp_len {T : Nat → ClassId} {z1 z2 z3 z4 z5 : Nat → Nat} : ∀ i, (cRp T z1 z2 z3 z4 z5 i).length = 5 * i
  | 0 => rfl
  | i + 1 => by rw [cRp, List.length_append, cRp_len i]; rfl
theorem cNp_ext {T : Nat → ClassId} {y1 y2 y3 w1 w2 w3 : Nat → Nat} : ∀ i, (∀ k, k < i → y1 k = w1 k ∧ y2 k = w2 k ∧ y3 k = w3 k) → cNp T y1 y2 y3 i = cNp T w1 w2 w3 i
  | 0, _ => rfl
  | i + 1, h => by
    obtain ⟨h1, h2, h3⟩ := h i (Nat.lt_succ_self i)
    rw [cNp, cNp, cNp_ext i (fun k hk => h k (by omega)), h1, h2, h3]
theorem cRp_ext {T : Nat → ClassId} {z1 z2 z3 z4 z5 w1 w2 w3 w4 w5 : Nat → Nat} : ∀ i, (∀ k, k < i → z1 k = w1 k ∧ z2 k = w2 k ∧ z3 k = w3 k ∧ z4 k = w4 k ∧ z5 k = w5 k) → cRp T z1 z2 z3 z4 z5 i = cRp T w1 w2 w3 w4 w5 i
  | 0, _ => rfl
  | i + 1, h => by
    obtain ⟨h1, h2, h3, h4, h5⟩ := h i (Nat.lt_succ_self i)
    rw [cRp, cRp, cRp_ext i (fun k hk => h k (by omega)), h1, h2, h3, h4, h5]
def pO (y : Nat → Nat) (i : Nat) : Nat → Option Nat := fun j => if j < i then some (y j) else none
theorem pO_up (y : Nat → Nat) (i q : Nat) : va_up (pO y i) i (some q) = pO (va_up y i q) (i + 1) := by
  funext j
  by_cases h : j = i
  · subst h
    rw [va_up_self, pO, if_pos (Nat.lt_succ_self j), va_up_self]
  · rw [va_up_ne _ _ h]
    simp only [pO]
    by_cases h2 : j < i
    · rw [if_pos h2, if_pos (by omega), va_up_ne _ _ h]
    · rw [if_neg h2, if_neg (by omega)]
theorem gcellq (cI : ClassId) {n : Nat} {f g : Nat → Option Nat} (h : ∀ j, j < n → f j = g j) : vp_cell cI (n, .inr (.inr (.inr (.inr f)))) = vp_cell cI (n, .inr (.inr (.inr (.inr g)))) := by
  have e : (fun j : Fin n => (va_rf (f j.val))) = (fun j : Fin n => va_rf (g j.val)) := funext fun j => by rw [h j.val j.isLt]
  show arrV cI n (fun j => va_rf (f j)) = arrV cI n (fun j => va_rf (g j))
  simp only [arrV]
  rw [e]
theorem growq {G : va_G} {ws : va_W} {H : Heap} (h : va_P G vwCl ws H) (q0 : Nat) {a : Nat} {cI : ClassId} {n : Nat} {f : Nat → Option Nat} (ha : ws[q0]? = some (a, .inl (cI, n, .inr (.inr (.inr (.inr f)))))) (g : Nat → Option Nat) (hg : ∀ j, j < n → f j = g j) : va_P G vwCl (ws.set q0 (a, .inl (cI, n, .inr (.inr (.inr (.inr g)))))) H := by
  intro k q hk
  by_cases hkp : k = q0
  · subst hkp
    have hl := (List.getElem?_eq_some_iff.mp ha).1
    rw [List.getElem?_set_self hl] at hk
    cases hk
    have h1 := h k _ ha
    show H[a]? = some (vp_cell cI (n, .inr (.inr (.inr (.inr g)))))
    rw [← gcellq cI hg]
    exact h1
  · rw [List.getElem?_set_ne (Ne.symm hkp)] at hk
    exact h k q hk
section GCN
variable {p : Program} {l : Launch} {e : Env} {R : Room} {s : State} {m : MethodId} {args : Array Value} {below : List Frame} {meth : Method} {c : Code} {H : Heap} {locs : List Loc} {cells slots : Nat} {Q : State → Prop}
variable {pc : Nat} {ls : Array Slot} {rest st0 : List Value} {a : Array Value} {A0 : Nat → Prop} {mc ms : Nat} {G : va_G} {X wc : va_W}
/-- behind a constructor that made cells: its world in the place of the tail -/
theorem gcvN {U : Type} {w1 : U → va_W} (hr : va_Run p l e R s m args below meth c H locs cells slots mc ms (F0 m pc ls st0) rest (va_Qv (fun _ : U => True) (fun u t => gN G (va_A wc H.size) (w1 u) t) (va_A wc H.size) a) (va_A wc H.size))
    (hP : va_P G vwCl (X ++ wc) H) (hD : va_D A0 (X ++ wc)) (hS : va_S A0 s.heap H locs) (hA : ∀ q, s.heap.size ≤ q → A0 q)
    (kk : ∀ (u : U) (H1 : Heap) (locs1 : List Loc), va_P G vwCl (X ++ w1 u) H1 → va_D A0 (X ++ w1 u) → va_S A0 s.heap H1 locs1 → W p l e R s m args below meth c H1 locs1 (cells + mc) (slots + ms) Q (F0 m (pc + 3) ls rest)) : W p l e R s m args below meth c H locs cells slots Q (F0 m pc ls st0) := by
  have hF := gtailF hD hS hA
  refine va_callv hr hS (fun q _ h => hF q h) hF (fun u t H1 locs1 ht hvm hw hB hz1 hk1 hS1 => ?_)
  obtain ⟨hP1, hD1⟩ := hB
  rw [ht] at hP1
  have ap : ∀ (k : Nat) (q : Nat × va_E), X[k]? = some q → q.1 < H.size ∧ ¬ va_A wc H.size q.1 := by
    intro k q hk2
    have hlt : k < X.length := (List.getElem?_eq_some_iff.mp hk2).1
    have hk3 : (X ++ wc)[k]? = some q := by rw [List.getElem?_append_left hlt]; exact hk2
    have hl := (hP k q hk3).lt
    refine ⟨hl, fun h => ?_⟩
    rcases h with ⟨j, e9, h⟩ | h
    · have h4 : (X ++ wc)[X.length + j]? = some (q.1, e9) := by rw [List.getElem?_append_right (by omega)]; simpa using h
      have := hD.1 _ _ q (q.1, e9) hk3 h4 rfl
      omega
    · omega
  have hDX : va_D A0 X := by
    have e1 : ∀ (k : Nat) (q : Nat × va_E), X[k]? = some q → (X ++ wc)[k]? = some q := fun k q hk => by rw [List.getElem?_append_left (List.getElem?_eq_some_iff.mp hk).1]; exact hk
    exact ⟨fun i j x y hi hj h => hD.1 i j x y (e1 i x hi) (e1 j y hj) h, fun k q hk => hD.2 k q (e1 k q hk)⟩
  refine kk u H1 locs1 (va_P.app (fun k q hk2 => ?_) hP1) (va_D.app hDX (hD1.weaken (fun k q _ h => hF q.1 h)) (fun i j x y hi hj hxy => ?_)) hS1
  · have hk3 : (X ++ wc)[k]? = some q := by rw [List.getElem?_append_left (List.getElem?_eq_some_iff.mp hk2).1]; exact hk2
    obtain ⟨g1, g2⟩ := ap k q hk2
    exact (hP k q hk3).kept (hk1 q.1 g1 g2)
  · exact (ap i x hi).2 (by rw [hxy]; exact hD1.2 j y hj)
end GCN
/-- the class as it is being made: i names, r resolvers in its rows -/
abbrev cB (T : Nat → ClassId) (x1 q1 q2 q3 : Nat) (y : Nat → Nat) (i : Nat) (z : Nat → Nat) (r : Nat) : va_W := [(x1, .inr (2, [.ref q1, .ref q2, .ref q3, .int 0, .int 0, .int 0])), (q1, .inl (T 0, 6, .inl (fun _ => 0))), (q2, .inl (T 2, 16, .inr (.inr (.inr (.inr (pO y i)))))), (q3, .inl (T 3, 3, .inr (.inr (.inr (.inr (pO z r))))))]
/-- the three resolvers -/
abbrev cRs (T : Nat → ClassId) (z1 z2 z3 z4 z5 : Nat → Nat) (k f g h : Nat → Nat → Int32) : va_W := cR T (z1 0) (z2 0) (z3 0) (z4 0) (z5 0) (k 0) (f 0) (g 0) (h 0) ++ (cR T (z1 1) (z2 1) (z3 1) (z4 1) (z5 1) (k 1) (f 1) (g 1) (h 1) ++ cR T (z1 2) (z2 2) (z3 2) (z4 2) (z5 2) (k 2) (f 2) (g 2) (h 2))
theorem cNp_16 (T : Nat → ClassId) (y1 y2 y3 : Nat → Nat) : cNp T y1 y2 y3 16 = cNs T y1 y2 y3 (fun _ => nI0) (fun _ _ => 0) (fun _ _ => 0) := by
  simp only [cNp, List.append_assoc, List.nil_append]
theorem cRp_3 (T : Nat → ClassId) (z1 z2 z3 z4 z5 : Nat → Nat) : cRp T z1 z2 z3 z4 z5 3 = cRs T z1 z2 z3 z4 z5 (fun _ _ => 0) (fun _ _ => 0) (fun _ _ => 0) (fun _ _ => 0) := by
  simp only [cRp, List.append_assoc, List.nil_append]
abbrev UA : Type := (Nat × Nat × Nat) × (Nat → Nat) × (Nat → Nat) × (Nat → Nat) × (Nat → Nat) × (Nat → Nat) × (Nat → Nat) × (Nat → Nat) × (Nat → Nat)
/-- the new registry -/
abbrev wNA (T : Nat → ClassId) (x1 : Nat) (u : UA) : va_W := cA T x1 u.1.1 u.1.2.1 u.1.2.2 (fun _ => 0) (fun _ => 0) u.2.1 u.2.2.2.2.1 ++ (cNs T u.2.1 u.2.2.1 u.2.2.2.1 (fun _ => nI0) (fun _ _ => 0) (fun _ _ => 0) ++ cRs T u.2.2.2.2.1 u.2.2.2.2.2.1 u.2.2.2.2.2.2.1 u.2.2.2.2.2.2.2.1 u.2.2.2.2.2.2.2.2 (fun _ _ => 0) (fun _ _ => 0) (fun _ _ => 0) (fun _ _ => 0))
abbrev PX2_init (G : va_G) (T : Nat → ClassId) (x1 : Nat) (sz : Nat) : Array Value → State → Prop := va_Pc [.ref x1] (fun U => gS G T ([(x1, .inr (2, [.null, .null, .null, .int 0, .int 0, .int 0]))]) sz U ∧ va_AO RX0 U ∧ va_AO RX1 U)
abbrev QX2_init (G : va_G) (T : Nat → ClassId) (x1 : Nat) (sz : Nat) : Array Value → State → Outcome → State → Prop := va_Qv (fun _ : UA => True) (fun u t => gN G (va_A ([(x1, .inr (2, [.null, .null, .null, .int 0, .int 0, .int 0]))]) sz) (wNA T x1 u) t) (va_A ([(x1, .inr (2, [.null, .null, .null, .int 0, .int 0, .int 0]))]) sz)
set_option maxHeartbeats 8000000 in
set_option maxRecDepth 100000 in
theorem kX2_init (l : Launch) (G : va_G) (T : Nat → ClassId) (x1 : Nat) (sz : Nat) : Met l yX2_init wsX2_init ({ frames := 2, cells := 66, slots := 597, locals := 32 } : Room) (PX2_init G T x1 sz) (QX2_init G T x1 sz) 66 597 (va_A ([(x1, .inr (2, [.null, .null, .null, .int 0, .int 0, .int 0]))]) sz) := by
  refine Met.ofW (cc := cX2_init) (maxL := 2) (ret := none) (by decide) rfl ?_
  intro p e s m args below meth c s₁ B hml hv
  obtain ⟨rfl, ⟨hsz, hP, hK, hD0, hE⟩, hO0, hO1⟩ := hv
  have hx := B.exec
  have hb := B.bytes
  have hr := B.returns
  have hts := atoms_spec (ws := wsX2_init) B.pre
  have hown : s.vm.findClass RX2 = some m.cls := findClass_of_methodNamed B.named
  have hlocks := B.notSynchronized
  have hin : meth.name = "<init>" := (name_of_methodNamed B.named B.method).1
  subst hsz
  have hD := hD0.self (sz := s.heap.size)
  have hA : ∀ q : Nat, s.heap.size ≤ q → (va_A ([(x1, .inr (2, [.null, .null, .null, .int 0, .int 0, .int 0]))]) s.heap.size) q := fun q h => Or.inr h
  have hS : va_S (va_A ([(x1, .inr (2, [.null, .null, .null, .int 0, .int 0, .int 0]))]) s.heap.size) s.heap s.heap [] := va_S.rf
  have hiRX0 : ∀ w ∈ u_ws RX0 TX0 11, w ∈ wsX2_init := by decide +kernel
  have hiRX1 : ∀ w ∈ u_ws RX1 TX1 4, w ∈ wsX2_init := by decide +kernel
  have hiRX2 : ∀ w ∈ u_ws RX2 TX2 6, w ∈ wsX2_init := by decide +kernel
  have hl := lv_entry ([.ref x1]) (n := 2) (Nat.le_of_ble_eq_true rfl)
  rw [lg_entry_eq]
  generalize (lg_sl ([.ref x1]) ++ List.replicate (2 - (lg_sl ([.ref x1])).length) Slot.unset).toArray = ls at hl ⊢
  have hl : lv_has ls 2 [(0, .ref x1)] := hl
  have hP : va_P G vwCl ([(x1, .inr (2, [.null, .null, .null, .int 0, .int 0, .int 0]))]) s.heap := hP
  refine lv_aload_n hx hb dX2_init_0 rfl (lv_at hl 0 rfl) ?_
  refine W.objInit hx hb hown (hts (.methodLink RX2 1 objectInit) (by decide +kernel)) (hts (.instanceMethod objectInit) (by decide +kernel)) (hts (.code objectInit ⟨#[0xb1]⟩ 1 none) (by decide +kernel)) rfl (by rw [hml]; exact hl.1) rfl dX2_init_1 (Nat.le_of_ble_eq_true rfl) (Nat.le_of_ble_eq_true rfl) ?_
  refine W.eq (g2 := F0 m 4 ls []) rfl ?_
  refine lv_aload_n hx hb dX2_init_4 rfl (lv_at hl 0 rfl) ?_
  refine lv_bipush (v := 6) hx hb dX2_init_5 (by decide) ?_
  refine va_newa (atype := .int) (ty := .int) (a0 := (6, .inl (fun _ => 0))) (N' := 6) hx hb (hts (.arrayClass .int) (by decide +kernel)) rfl hK hP hD hS hA (fun _ => rfl) (by decide) (by decide) (by decide) (Nat.le_of_ble_eq_true rfl) (Nat.le_of_ble_eq_true rfl) dX2_init_7 (fun q_1 cA9 H hK9 hP hD hS => ?_)
  have eT9 := gT_i hK9
  subst eT9
  have hP : va_P G vwCl (([(x1, .inr (2, [.null, .null, .null, .int 0, .int 0, .int 0]))]) ++ ([(q_1, .inl (T 0, 6, .inl (fun _ => 0)))])) H := hP
  have hD : va_D (va_A ([(x1, .inr (2, [.null, .null, .null, .int 0, .int 0, .int 0]))]) s.heap.size) (([(x1, .inr (2, [.null, .null, .null, .int 0, .int 0, .int 0]))]) ++ ([(q_1, .inl (T 0, 6, .inl (fun _ => 0)))])) := hD
  refine va_putF (D := G) (ci := 2) (v := .ref q_1) (ty := .array .int) (C := RX2) (T := TX2) (N := 6) hx hb hts hiRX2 tyX2 tyX2_ok nmX2 hown hK hP hD hS 0 rfl rfl 0 (by decide) (hts (.fieldLink RX2 9 "NameAuction" "money" "[I") (by decide +kernel)) (fun _ h9 => h9) rfl hin rfl (by decide +kernel) rfl rfl (Nat.le_of_ble_eq_true rfl) dX2_init_9 (fun H locs hP hD hS => ?_)
  have hP : va_P G vwCl (([(x1, .inr (2, [.ref q_1, .null, .null, .int 0, .int 0, .int 0]))]) ++ ([(q_1, .inl (T 0, 6, .inl (fun _ => 0)))])) H := hP
  have hD : va_D (va_A ([(x1, .inr (2, [.null, .null, .null, .int 0, .int 0, .int 0]))]) s.heap.size) (([(x1, .inr (2, [.ref q_1, .null, .null, .int 0, .int 0, .int 0]))]) ++ ([(q_1, .inl (T 0, 6, .inl (fun _ => 0)))])) := hD
  refine lv_aload_n hx hb dX2_init_12 rfl (lv_at hl 0 rfl) ?_
  refine lv_bipush (v := 16) hx hb dX2_init_13 (by decide) ?_
  refine va_newq (C := RX0) (N' := 16) hx hb hown (hts (.classLink RX2 13 RX0) (by decide +kernel)) hO0 hK hP hD hS hA (by decide) (by decide) (by decide) (Nat.le_of_ble_eq_true rfl) (Nat.le_of_ble_eq_true rfl) dX2_init_15 (fun q_2 cA9 H hK9 hP hD hS => ?_)
  have eT9 := gT_n hK9
  subst eT9
  have hP : va_P G vwCl (([(x1, .inr (2, [.ref q_1, .null, .null, .int 0, .int 0, .int 0]))]) ++ ([(q_1, .inl (T 0, 6, .inl (fun _ => 0)))]) ++ ([(q_2, .inl (T 2, 16, .inr (.inr (.inr (.inr (fun _ => none))))))])) H := hP
  have hD : va_D (va_A ([(x1, .inr (2, [.null, .null, .null, .int 0, .int 0, .int 0]))]) s.heap.size) (([(x1, .inr (2, [.ref q_1, .null, .null, .int 0, .int 0, .int 0]))]) ++ ([(q_1, .inl (T 0, 6, .inl (fun _ => 0)))]) ++ ([(q_2, .inl (T 2, 16, .inr (.inr (.inr (.inr (fun _ => none))))))])) := hD
  refine va_putF (D := G) (ci := 2) (v := .ref q_2) (ty := .array (.object RX0)) (C := RX2) (T := TX2) (N := 6) hx hb hts hiRX2 tyX2 tyX2_ok nmX2 hown hK hP hD hS 0 rfl rfl 1 (by decide) (hts (.fieldLink RX2 15 "NameAuction" "names" "[LNameAuction$Name;") (by decide +kernel)) (fun _ h9 => h9) rfl hin rfl (by decide +kernel) rfl rfl (Nat.le_of_ble_eq_true rfl) dX2_init_18 (fun H locs hP hD hS => ?_)
  have hP : va_P G vwCl (([(x1, .inr (2, [.ref q_1, .ref q_2, .null, .int 0, .int 0, .int 0]))]) ++ ([(q_1, .inl (T 0, 6, .inl (fun _ => 0)))]) ++ ([(q_2, .inl (T 2, 16, .inr (.inr (.inr (.inr (fun _ => none))))))])) H := hP
  have hD : va_D (va_A ([(x1, .inr (2, [.null, .null, .null, .int 0, .int 0, .int 0]))]) s.heap.size) (([(x1, .inr (2, [.ref q_1, .ref q_2, .null, .int 0, .int 0, .int 0]))]) ++ ([(q_1, .inl (T 0, 6, .inl (fun _ => 0)))]) ++ ([(q_2, .inl (T 2, 16, .inr (.inr (.inr (.inr (fun _ => none))))))])) := hD
  refine lv_aload_n hx hb dX2_init_21 rfl (lv_at hl 0 rfl) ?_
  refine lv_iconst (v := 3) hx hb dX2_init_22 (by decide) ?_
  refine va_newq (C := RX1) (N' := 3) hx hb hown (hts (.classLink RX2 19 RX1) (by decide +kernel)) hO1 hK hP hD hS hA (by decide) (by decide) (by decide) (Nat.le_of_ble_eq_true rfl) (Nat.le_of_ble_eq_true rfl) dX2_init_23 (fun q_3 cA9 H hK9 hP hD hS => ?_)
  have eT9 := gT_r hK9
  subst eT9
  have hP : va_P G vwCl (([(x1, .inr (2, [.ref q_1, .ref q_2, .null, .int 0, .int 0, .int 0]))]) ++ ([(q_1, .inl (T 0, 6, .inl (fun _ => 0)))]) ++ ([(q_2, .inl (T 2, 16, .inr (.inr (.inr (.inr (fun _ => none))))))]) ++ ([(q_3, .inl (T 3, 3, .inr (.inr (.inr (.inr (fun _ => none))))))])) H := hP
  have hD : va_D (va_A ([(x1, .inr (2, [.null, .null, .null, .int 0, .int 0, .int 0]))]) s.heap.size) (([(x1, .inr (2, [.ref q_1, .ref q_2, .null, .int 0, .int 0, .int 0]))]) ++ ([(q_1, .inl (T 0, 6, .inl (fun _ => 0)))]) ++ ([(q_2, .inl (T 2, 16, .inr (.inr (.inr (.inr (fun _ => none))))))]) ++ ([(q_3, .inl (T 3, 3, .inr (.inr (.inr (.inr (fun _ => none))))))])) := hD
  refine va_putF (D := G) (ci := 2) (v := .ref q_3) (ty := .array (.object RX1)) (C := RX2) (T := TX2) (N := 6) hx hb hts hiRX2 tyX2 tyX2_ok nmX2 hown hK hP hD hS 0 rfl rfl 2 (by decide) (hts (.fieldLink RX2 21 "NameAuction" "resolvers" "[LNameAuction$Resolver;") (by decide +kernel)) (fun _ h9 => h9) rfl hin rfl (by decide +kernel) rfl rfl (Nat.le_of_ble_eq_true rfl) dX2_init_26 (fun H locs hP hD hS => ?_)
  have hP : va_P G vwCl (([(x1, .inr (2, [.ref q_1, .ref q_2, .ref q_3, .int 0, .int 0, .int 0]))]) ++ ([(q_1, .inl (T 0, 6, .inl (fun _ => 0)))]) ++ ([(q_2, .inl (T 2, 16, .inr (.inr (.inr (.inr (fun _ => none))))))]) ++ ([(q_3, .inl (T 3, 3, .inr (.inr (.inr (.inr (fun _ => none))))))])) H := hP
  have hD : va_D (va_A ([(x1, .inr (2, [.null, .null, .null, .int 0, .int 0, .int 0]))]) s.heap.size) (([(x1, .inr (2, [.ref q_1, .ref q_2, .ref q_3, .int 0, .int 0, .int 0]))]) ++ ([(q_1, .inl (T 0, 6, .inl (fun _ => 0)))]) ++ ([(q_2, .inl (T 2, 16, .inr (.inr (.inr (.inr (fun _ => none))))))]) ++ ([(q_3, .inl (T 3, 3, .inr (.inr (.inr (.inr (fun _ => none))))))])) := hD
  have J31 : ∀ n9 : Nat, ∀ (i : Nat) (y1 y2 y3 : Nat → Nat) (H : Heap) (locs : List Loc) (ls : Array Slot), i ≤ 16 → 17 ≤ i + n9 → va_P G vwCl (cB T x1 q_1 q_2 q_3 y1 i (fun _ => 0) 0 ++ cNp T y1 y2 y3 i) H → va_D (va_A ([(x1, .inr (2, [.null, .null, .null, .int 0, .int 0, .int 0]))]) s.heap.size) (cB T x1 q_1 q_2 q_3 y1 i (fun _ => 0) 0 ++ cNp T y1 y2 y3 i) → va_S (va_A ([(x1, .inr (2, [.null, .null, .null, .int 0, .int 0, .int 0]))]) s.heap.size) s.heap H locs → lv_has ls 2 [(0, .ref x1), (1, .int (nI i))] → W p l e (headSpec wsX2_init ({ frames := 2, cells := 66, slots := 597, locals := 32 } : Room)).room s m ([.ref x1] : List Value).toArray below meth c H locs (3 + 3 * i) (25 + 23 * i) (MQ below (QX2_init G T x1 s.heap.size) ([.ref x1] : List Value).toArray s 66 597 (va_A ([(x1, .inr (2, [.null, .null, .null, .int 0, .int 0, .int 0]))]) s.heap.size)) (F0 m 31 ls []) := by
    intro n9
    induction n9 with
    | zero => intro i y1 y2 y3 H locs ls hi hm hP hD hS hl; exact absurd hm (by omega)
    | succ n9 ih =>
      intro i y1 y2 y3 H locs ls hi hm hP hD hS hl
      refine lv_iload_n hx hb dX2_init_31 rfl (lv_at hl 1 rfl) ?_
      refine lv_bipush (v := 16) hx hb dX2_init_32 (by decide) ?_
      refine lv_icmp_ge (tgt := 56) hx hb dX2_init_34 (by decide) (fun c34 => ?_) (fun c34 => ?_)
      · have hge : i = 16 := by
          rcases Nat.lt_or_ge i 16 with q | q
          · exact absurd c34 (nI_ge (b := 16) q (by omega))
          · omega
        subst hge
        refine lv_iconst (v := 0) hx hb dX2_init_56 (by decide) ?_
        refine lv_istore_n (lv' := [(1, .int 0), (0, .ref x1)]) hx hb dX2_init_57 rfl hl (by decide) rfl (fun ls hl => ?_)
        have J58 : ∀ n8 : Nat, ∀ (i : Nat) (z1 z2 z3 z4 z5 : Nat → Nat) (H : Heap) (locs : List Loc) (ls : Array Slot), i ≤ 3 → 4 ≤ i + n8 → va_P G vwCl (cB T x1 q_1 q_2 q_3 y1 16 z1 i ++ (cNp T y1 y2 y3 16 ++ cRp T z1 z2 z3 z4 z5 i)) H → va_D (va_A ([(x1, .inr (2, [.null, .null, .null, .int 0, .int 0, .int 0]))]) s.heap.size) (cB T x1 q_1 q_2 q_3 y1 16 z1 i ++ (cNp T y1 y2 y3 16 ++ cRp T z1 z2 z3 z4 z5 i)) → va_S (va_A ([(x1, .inr (2, [.null, .null, .null, .int 0, .int 0, .int 0]))]) s.heap.size) s.heap H locs → lv_has ls 2 [(0, .ref x1), (1, .int (nI i))] → W p l e (headSpec wsX2_init ({ frames := 2, cells := 66, slots := 597, locals := 32 } : Room)).room s m ([.ref x1] : List Value).toArray below meth c H locs (51 + 5 * i) (393 + 68 * i) (MQ below (QX2_init G T x1 s.heap.size) ([.ref x1] : List Value).toArray s 66 597 (va_A ([(x1, .inr (2, [.null, .null, .null, .int 0, .int 0, .int 0]))]) s.heap.size)) (F0 m 58 ls []) := by
          intro n8
          induction n8 with
          | zero => intro i z1 z2 z3 z4 z5 H locs ls hi hm hP hD hS hl; exact absurd hm (by omega)
          | succ n8 ih8 =>
            intro i z1 z2 z3 z4 z5 H locs ls hi hm hP hD hS hl
            refine lv_iload_n hx hb dX2_init_58 rfl (lv_at hl 1 rfl) ?_
            refine lv_iconst (v := 3) hx hb dX2_init_59 (by decide) ?_
            refine lv_icmp_ge (tgt := 82) hx hb dX2_init_60 (by decide) (fun c60 => ?_) (fun c60 => ?_)
            · have hge : i = 3 := by
                rcases Nat.lt_or_ge i 3 with q | q
                · exact absurd c60 (nI_ge (b := 3) q (by omega))
                · omega
              subst hge
              have eW : cB T x1 q_1 q_2 q_3 y1 16 z1 3 ++ (cNp T y1 y2 y3 16 ++ cRp T z1 z2 z3 z4 z5 3) = cB T x1 q_1 q_2 q_3 y1 16 z1 3 ++ (cNs T y1 y2 y3 (fun _ => nI0) (fun _ _ => 0) (fun _ _ => 0) ++ cRs T z1 z2 z3 z4 z5 (fun _ _ => 0) (fun _ _ => 0) (fun _ _ => 0) (fun _ _ => 0)) := by rw [cNp_16, cRp_3]
              have hP := gfin hP eW
              have hD := gfinD hD eW
              have hP := growq hP 2 rfl (fun j => some (y1 j)) (fun j hj => by simp only [pO]; rw [if_pos hj])
              have hD := hD.set (p := 2) (e := .inl (T 2, 16, .inr (.inr (.inr (.inr (fun j => some (y1 j))))))) rfl
              have hP := growq hP 3 rfl (fun j => some (z1 j)) (fun j hj => by simp only [pO]; rw [if_pos hj])
              have hD := hD.set (p := 3) (e := .inl (T 3, 3, .inr (.inr (.inr (.inr (fun j => some (z1 j))))))) rfl
              exact W.vret hx hb hr (fun t ht9 hW => ⟨⟨((q_1, q_2, q_3), y1, y2, y3, z1, z2, z3, z4, z5), rfl, trivial, gBn (gBi ht9 hP) hD⟩, hS.F ht9⟩) hS.2.2 dX2_init_82
            · have hlt : i < 3 := by
                rcases Nat.lt_or_ge i 3 with q | q
                · exact q
                · exact absurd (show (3 : Int32) ≤ nI i from nI_le (a := 3) q (by omega)) c60
              refine lv_aload_n hx hb dX2_init_63 rfl (lv_at hl 0 rfl) ?_
              refine va_get (D := G) (ci := 2) (v := .ref q_3) (C := RX2) (T := TX2) (N := 6) hx hb hts hiRX2 hown hK hP 0 rfl rfl 2 (by decide) (hts (.fieldLink RX2 21 "NameAuction" "resolvers" "[LNameAuction$Resolver;") (by decide +kernel)) (fun _ h9 => h9) rfl dX2_init_64 ?_
              refine lv_iload_n hx hb dX2_init_67 rfl (lv_at hl 1 rfl) ?_
              refine va_new (ci := 1) (fs := [.null, .null, .null, .null]) (C := RX1) (T := TX1) (N := 4) hx hb hts hiRX1 tyX1 tyX1_ok hown (hts (.classLink RX2 19 RX1) (by decide +kernel)) (hts (.instantiable RX1 4) (by decide +kernel)) (hts (.initialized RX1) (by decide +kernel)) hK hP hD hS hA rfl (fun j hj => by rcases (show j = 0 ∨ j = 1 ∨ j = 2 ∨ j = 3 by omega) with rfl | rfl | rfl | rfl <;> rfl) (by show 51 + 5 * i + 1 ≤ 66; omega) (by show 393 + 68 * i + 4 ≤ 597; omega) dX2_init_68 (fun q H hP hD hS => ?_)
              refine lv_dup hx hb dX2_init_71 rfl ?_
              refine gcvN (X := cB T x1 q_1 q_2 q_3 y1 16 z1 i ++ (cNp T y1 y2 y3 16 ++ cRp T z1 z2 z3 z4 z5 i)) (va_runIN (As := []) (rest := [.ref q, .int (nI i), .ref q_3]) ⟨hx, hb, hml, hown, hts⟩ (kX1_init l G T q _) ⟨va_cnB 0 hts gX2_init_X1_init_n26 rfl rfl rfl (hE.1 (.methodLinkNest RX2 26 yX1_init RX2) (by decide +kernel)) (hts (.initialized RX1) (by decide +kernel)) (by decide +kernel) ⟨Nat.le_of_ble_eq_true rfl, Nat.le_of_ble_eq_true rfl⟩, rfl, hts (.instanceMethod yX1_init) (by decide +kernel)⟩ ⟨gblind, gpreT (X := cB T x1 q_1 q_2 q_3 y1 16 z1 i ++ (cNp T y1 y2 y3 16 ++ cRp T z1 z2 z3 z4 z5 i)) hE hK hP hD hS hA⟩ rfl rfl hl.1 rfl (lv_room (Nat.le_of_ble_eq_true rfl)) dX2_init_72 ⟨by show 51 + 5 * i + 1 + 4 ≤ 66; omega, by show 393 + 68 * i + 4 + 64 ≤ 597; omega⟩) hP hD hS hA (fun u H locs hP hD hS => ?_)
              refine va_astq hx hb hK hP hD hS 3 3 (52 + 5 * i) 1 rfl rfl (by rw [List.getElem?_append_right (by simp only [List.length_append, cNp_len, cRp_len, List.length_cons, List.length_nil]; omega)]; simp only [List.length_append, cNp_len, cRp_len, List.length_cons, List.length_nil]; rw [show 52 + 5 * i - (0 + 1 + 1 + 1 + 1 + (3 * 16 + 5 * i)) = 0 by omega]; rfl) rfl (gin rfl hlt (by decide)) dX2_init_75 (fun H locs hP hD hS => ?_)
              rw [gcl (rfl : nI i = nI i) hlt (by decide), pO_up] at hP hD
              have eW : cB T x1 q_1 q_2 q_3 y1 16 (va_up z1 i q) (i + 1) ++ (cNp T y1 y2 y3 16 ++ cRp T z1 z2 z3 z4 z5 i) ++ cR T q u.1 u.2.1 u.2.2.1 u.2.2.2 (fun _ => 0) (fun _ => 0) (fun _ => 0) (fun _ => 0) = cB T x1 q_1 q_2 q_3 y1 16 (va_up z1 i q) (i + 1) ++ (cNp T y1 y2 y3 16 ++ cRp T (va_up z1 i q) (va_up z2 i u.1) (va_up z3 i u.2.1) (va_up z4 i u.2.2.1) (va_up z5 i u.2.2.2) (i + 1)) := by
                rw [cRp, cRp_ext (w1 := va_up z1 i q) (w2 := va_up z2 i u.1) (w3 := va_up z3 i u.2.1) (w4 := va_up z4 i u.2.2.1) (w5 := va_up z5 i u.2.2.2) i (fun k hk => ⟨(va_up_ne _ _ (Nat.ne_of_lt hk)).symm, (va_up_ne _ _ (Nat.ne_of_lt hk)).symm, (va_up_ne _ _ (Nat.ne_of_lt hk)).symm, (va_up_ne _ _ (Nat.ne_of_lt hk)).symm, (va_up_ne _ _ (Nat.ne_of_lt hk)).symm⟩), va_up_self, va_up_self, va_up_self, va_up_self, va_up_self, List.append_assoc, List.append_assoc]
              have hP := gfin hP eW
              have hD := gfinD hD eW
              refine W.cs (cells' := 51 + 5 * (i + 1)) (slots' := 393 + 68 * (i + 1)) (by omega) (by omega) ?_
              refine lv_iinc (v := nI (i + 1)) (lv' := [(1, .int (nI (i + 1))), (0, .ref x1)]) hx hb dX2_init_76 hl (k := 1) rfl (by first | rfl | exact (nI_add i 1)) (by decide) rfl (fun ls hl => ?_)
              refine lv_goto (tgt := 58) hx hb dX2_init_79 (by decide) ?_
              exact ih8 (i + 1) _ _ _ _ _ _ _ _ (by omega) (by omega) hP hD hS (lv_sub hl [1, 0] rfl)
        have eW : cB T x1 q_1 q_2 q_3 y1 16 (fun _ => 0) 0 ++ cNp T y1 y2 y3 16 = cB T x1 q_1 q_2 q_3 y1 16 (fun _ => 0) 0 ++ (cNp T y1 y2 y3 16 ++ cRp T (fun _ => 0) (fun _ => 0) (fun _ => 0) (fun _ => 0) (fun _ => 0) 0) := by rw [cRp, List.append_nil]
        exact J58 4 0 (fun _ => 0) (fun _ => 0) (fun _ => 0) (fun _ => 0) (fun _ => 0) _ _ _ (by omega) (by omega) (gfin hP eW) (gfinD hD eW) hS (lv_sub hl [1, 0] rfl)
      · have hlt : i < 16 := by
          rcases Nat.lt_or_ge i 16 with q | q
          · exact q
          · exact absurd (show (16 : Int32) ≤ nI i from nI_le (a := 16) q (by omega)) c34
        refine lv_aload_n hx hb dX2_init_37 rfl (lv_at hl 0 rfl) ?_
        refine va_get (D := G) (ci := 2) (v := .ref q_2) (C := RX2) (T := TX2) (N := 6) hx hb hts hiRX2 hown hK hP 0 rfl rfl 1 (by decide) (hts (.fieldLink RX2 15 "NameAuction" "names" "[LNameAuction$Name;") (by decide +kernel)) (fun _ h9 => h9) rfl dX2_init_38 ?_
        refine lv_iload_n hx hb dX2_init_41 rfl (lv_at hl 1 rfl) ?_
        refine va_new (ci := 0) (fs := [.int 0, .int 0, .int 0, .int 0, .int 0, .int 0, .int 0, .int 0, .int 0, .null, .null]) (C := RX0) (T := TX0) (N := 11) hx hb hts hiRX0 tyX0 tyX0_ok hown (hts (.classLink RX2 13 RX0) (by decide +kernel)) (hts (.instantiable RX0 11) (by decide +kernel)) (hts (.initialized RX0) (by decide +kernel)) hK hP hD hS hA rfl (fun j hj => by rcases (show j = 0 ∨ j = 1 ∨ j = 2 ∨ j = 3 ∨ j = 4 ∨ j = 5 ∨ j = 6 ∨ j = 7 ∨ j = 8 ∨ j = 9 ∨ j = 10 by omega) with rfl | rfl | rfl | rfl | rfl | rfl | rfl | rfl | rfl | rfl | rfl <;> rfl) (by show 3 + 3 * i + 1 ≤ 66; omega) (by show 25 + 23 * i + 11 ≤ 597; omega) dX2_init_42 (fun q H hP hD hS => ?_)
        refine lv_dup hx hb dX2_init_45 rfl ?_
        refine gcvN (X := cB T x1 q_1 q_2 q_3 y1 i (fun _ => 0) 0 ++ cNp T y1 y2 y3 i) (va_runIN (As := []) (rest := [.ref q, .int (nI i), .ref q_2]) ⟨hx, hb, hml, hown, hts⟩ (kX0_init l G T q _) ⟨va_cnB 0 hts gX2_init_X0_init_n25 rfl rfl rfl (hE.1 (.methodLinkNest RX2 25 yX0_init RX2) (by decide +kernel)) (hts (.initialized RX0) (by decide +kernel)) (by decide +kernel) ⟨Nat.le_of_ble_eq_true rfl, Nat.le_of_ble_eq_true rfl⟩, rfl, hts (.instanceMethod yX0_init) (by decide +kernel)⟩ ⟨gblind, gpreT (X := cB T x1 q_1 q_2 q_3 y1 i (fun _ => 0) 0 ++ cNp T y1 y2 y3 i) hE hK hP hD hS hA⟩ rfl rfl hl.1 rfl (lv_room (Nat.le_of_ble_eq_true rfl)) dX2_init_46 ⟨by show 3 + 3 * i + 1 + 2 ≤ 66; omega, by show 25 + 23 * i + 11 + 12 ≤ 597; omega⟩) hP hD hS hA (fun u H locs hP hD hS => ?_)
        refine va_astq hx hb hK hP hD hS 2 2 (4 + 3 * i) 0 rfl rfl (by rw [List.getElem?_append_right (by simp only [List.length_append, cNp_len, List.length_cons, List.length_nil]; omega)]; simp only [List.length_append, cNp_len, List.length_cons, List.length_nil]; rw [show 4 + 3 * i - (0 + 1 + 1 + 1 + 1 + 3 * i) = 0 by omega]; rfl) rfl (gin rfl hlt (by decide)) dX2_init_49 (fun H locs hP hD hS => ?_)
        rw [gcl (rfl : nI i = nI i) hlt (by decide), pO_up] at hP hD
        have eW : cB T x1 q_1 q_2 q_3 (va_up y1 i q) (i + 1) (fun _ => 0) 0 ++ cNp T y1 y2 y3 i ++ cN T q u.1 u.2 nI0 (fun _ => 0) (fun _ => 0) = cB T x1 q_1 q_2 q_3 (va_up y1 i q) (i + 1) (fun _ => 0) 0 ++ cNp T (va_up y1 i q) (va_up y2 i u.1) (va_up y3 i u.2) (i + 1) := by
          rw [cNp, cNp_ext (w1 := va_up y1 i q) (w2 := va_up y2 i u.1) (w3 := va_up y3 i u.2) i (fun k hk => ⟨(va_up_ne _ _ (Nat.ne_of_lt hk)).symm, (va_up_ne _ _ (Nat.ne_of_lt hk)).symm, (va_up_ne _ _ (Nat.ne_of_lt hk)).symm⟩), va_up_self, va_up_self, va_up_self, List.append_assoc]
        have hP := gfin hP eW
        have hD := gfinD hD eW
        refine W.cs (cells' := 3 + 3 * (i + 1)) (slots' := 25 + 23 * (i + 1)) (by omega) (by omega) ?_
        refine lv_iinc (v := nI (i + 1)) (lv' := [(1, .int (nI (i + 1))), (0, .ref x1)]) hx hb dX2_init_50 hl (k := 1) rfl (by first | rfl | exact (nI_add i 1)) (by decide) rfl (fun ls hl => ?_)
        refine lv_goto (tgt := 31) hx hb dX2_init_53 (by decide) ?_
        exact ih (i + 1) _ _ _ _ _ _ (by omega) (by omega) hP hD hS (lv_sub hl [1, 0] rfl)
  have eW : ([(x1, .inr (2, [.ref q_1, .ref q_2, .ref q_3, .int 0, .int 0, .int 0]))]) ++ ([(q_1, .inl (T 0, 6, .inl (fun _ => 0)))]) ++ ([(q_2, .inl (T 2, 16, .inr (.inr (.inr (.inr (fun _ => none))))))]) ++ ([(q_3, .inl (T 3, 3, .inr (.inr (.inr (.inr (fun _ => none))))))]) = cB T x1 q_1 q_2 q_3 (fun _ => 0) 0 (fun _ => 0) 0 ++ cNp T (fun _ => 0) (fun _ => 0) (fun _ => 0) 0 := by
    have e0 : pO (fun _ => 0) 0 = fun _ => none := by funext j; simp only [pO]; rw [if_neg (by omega)]
    rw [cNp, List.append_nil]
    show _ = cB T x1 q_1 q_2 q_3 (fun _ => 0) 0 (fun _ => 0) 0
    unfold cB
    rw [e0]
    rfl
  refine lv_iconst (v := 0) hx hb dX2_init_29 (by decide) ?_
  refine lv_istore_n (lv' := [(1, .int 0), (0, .ref x1)]) hx hb dX2_init_30 rfl hl (by decide) rfl (fun ls hl => ?_)
  exact J31 17 0 (fun _ => 0) (fun _ => 0) (fun _ => 0) _ _ _ (by omega) (by omega) (gfin hP eW) (gfinD hD eW) hS (lv_sub hl [1, 0] rfl)
