/-! LEAVES: Arrays.fill, the names, the resolvers, the checks -/
def fa_fill2 (v : Int32) (f : Nat → Int32) (i : Nat) : Nat → Int32 := fun j => if j < i then v else f j
theorem fa_fill2_0 (v : Int32) (f : Nat → Int32) : fa_fill2 v f 0 = f := by
  funext j
  simp only [fa_fill2]
  rw [if_neg (by omega)]
theorem gfill_up (v : Int32) (f : Nat → Int32) (i : Nat) : upd (fa_fill2 v f i) i v = fa_fill2 v f (i + 1) := by
  funext j
  simp only [upd, fa_fill2]
  by_cases h : j = i
  · subst h; rw [if_pos rfl, if_pos (by omega)]
  · rw [if_neg h]
    by_cases h2 : j < i
    · rw [if_pos h2, if_pos (by omega)]
    · rw [if_neg h2, if_neg (by omega)]
def bI (b : Bool) : Int32 := if b then 1 else 0
abbrev PJ7_fill_53178 (G : va_G) (T : Nat → ClassId) (x1 len : Nat) (f : Nat → Int32) (v : Int32) (sz : Nat) : Array Value → State → Prop := gPc G T [.ref x1, .int v] ([(x1, .inl (T 0, len, .inl f))]) sz
abbrev QJ7_fill_53178 (G : va_G) (T : Nat → ClassId) (x1 len : Nat) (f : Nat → Int32) (v : Int32) (sz : Nat) : Array Value → State → Outcome → State → Prop := va_Qv (fun _ : Unit => True) (gB G ([(x1, .inl (T 0, len, .inl (fun _ => v)))])) (va_A ([(x1, .inl (T 0, len, .inl f))]) sz)
set_option maxHeartbeats 4000000 in
set_option maxRecDepth 100000 in
theorem kJ7_fill_53178 (l : Launch) (G : va_G) (T : Nat → ClassId) (x1 len : Nat) (f : Nat → Int32) (v : Int32) (sz : Nat) (hlen : len < 2 ^ 31) : Met l yJ7_fill_53178 wsJ7_fill_53178 ({ frames := 0, cells := 0, slots := 0, locals := 0 } : Room) (PJ7_fill_53178 G T x1 len f v sz) (QJ7_fill_53178 G T x1 len f v sz) 0 0 (va_A ([(x1, .inl (T 0, len, .inl f))]) sz) := by
  refine Met.ofW (cc := cJ7_fill_53178) (maxL := 4) (ret := none) (by decide) rfl ?_
  intro p e s m args below meth c s₁ B hml hv
  obtain ⟨rfl, hsz, hP, hK, hD0, hE⟩ := hv
  have hx := B.exec
  have hb := B.bytes
  have hr := B.returns
  have hts := atoms_spec (ws := wsJ7_fill_53178) B.pre
  have hown : s.vm.findClass RJ7 = some m.cls := findClass_of_methodNamed B.named
  have hlocks := B.notSynchronized
  subst hsz
  have hD := hD0.self (sz := s.heap.size)
  have hA : ∀ q : Nat, s.heap.size ≤ q → (va_A ([(x1, .inl (T 0, len, .inl f))]) s.heap.size) q := fun q h => Or.inr h
  have hS : va_S (va_A ([(x1, .inl (T 0, len, .inl f))]) s.heap.size) s.heap s.heap [] := va_S.rf
  have hl := lv_entry ([.ref x1, .int v]) (n := 4) (Nat.le_of_ble_eq_true rfl)
  rw [lg_entry_eq]
  generalize (lg_sl ([.ref x1, .int v]) ++ List.replicate (4 - (lg_sl ([.ref x1, .int v])).length) Slot.unset).toArray = ls at hl ⊢
  have hl : lv_has ls 4 [(0, .ref x1), (1, .int v)] := hl
  have hP : va_P G vwCl ([(x1, .inl (T 0, len, .inl f))]) s.heap := hP
  refine lv_iconst (v := 0) hx hb dJ7_fill_53178_0 (by decide) ?_
  refine lv_istore_n (lv' := [(2, .int 0), (0, .ref x1), (1, .int v)]) hx hb dJ7_fill_53178_1 rfl hl (by decide) rfl (fun ls hl => ?_)
  refine lv_aload_n hx hb dJ7_fill_53178_2 rfl (lv_at hl 1 rfl) ?_
  refine va_alen hx hb hK hP 0 0 rfl rfl (v := nI len) rfl dJ7_fill_53178_3 ?_
  refine lv_istore_n (lv' := [(3, .int (nI len)), (2, .int 0), (0, .ref x1), (1, .int v)]) hx hb dJ7_fill_53178_4 rfl hl (by decide) rfl (fun ls hl => ?_)
  have J5 : ∀ n9 : Nat, ∀ (i : Nat) (H : Heap) (locs : List Loc) (ls : Array Slot), (i ≤ len) → (len + 1 ≤ i + n9) → va_P G vwCl ([(x1, .inl (T 0, len, .inl (fa_fill2 v f i)))]) H → va_D (va_A ([(x1, .inl (T 0, len, .inl f))]) s.heap.size) ([(x1, .inl (T 0, len, .inl (fa_fill2 v f i)))]) → va_S (va_A ([(x1, .inl (T 0, len, .inl f))]) s.heap.size) s.heap H locs → lv_has ls 4 [(0, .ref x1), (1, .int v), (2, .int (nI i)), (3, .int (nI len))] → W p l e (headSpec wsJ7_fill_53178 ({ frames := 0, cells := 0, slots := 0, locals := 0 } : Room)).room s m ([.ref x1, .int v] : List Value).toArray below meth c H locs 0 0 (MQ below (QJ7_fill_53178 G T x1 len f v s.heap.size) ([.ref x1, .int v] : List Value).toArray s 0 0 (va_A ([(x1, .inl (T 0, len, .inl f))]) s.heap.size)) (F0 m 5 ls []) := by
    intro n9
    induction n9 with
    | zero => intro i H locs ls hi hm hP hD hS hl; exact absurd (hm) (by omega)
    | succ n9 ih5 =>
      intro i H locs ls hi hm hP hD hS hl
      refine lv_iload_n hx hb dJ7_fill_53178_5 rfl (lv_at hl 2 rfl) ?_
      refine lv_iload_n hx hb dJ7_fill_53178_6 rfl (lv_at hl 3 rfl) ?_
      refine lv_icmp_ge (tgt := 20) hx hb dJ7_fill_53178_7 (by decide) (fun c7 => ?_) (fun c7 => ?_)
      · skip
        have hge : i = len := by
          rcases Nat.lt_or_ge i len with q | q
          · exact absurd c7 (nI_ge q (by omega))
          · omega
        have hP := grow hP 0 rfl (fun _ => v) (fun j hj => by simp only [fa_fill2]; rw [if_pos (by omega)])
        have hP : va_P G vwCl ([(x1, .inl (T 0, len, .inl (fun _ => v)))]) H := hP
        exact W.vret hx hb hr (fun t ht9 hW => ⟨⟨(), rfl, trivial, gBi ht9 hP⟩, hS.F ht9⟩) hS.2.2 dJ7_fill_53178_20
      · skip
        have hlt : i < len := by
          rcases Nat.lt_or_ge i len with q | q
          · exact q
          · exact absurd (nI_le q (by omega)) c7
        refine lv_aload_n hx hb dJ7_fill_53178_10 rfl (lv_at hl 0 rfl) ?_
        refine lv_iload_n hx hb dJ7_fill_53178_11 rfl (lv_at hl 2 rfl) ?_
        refine lv_iload_n hx hb dJ7_fill_53178_12 rfl (lv_at hl 1 rfl) ?_
        refine giast (j := i) hx hb hK hP hD hS 0 0 rfl rfl (show (nI i : Int32) = nI i from rfl) (by omega) hlen dJ7_fill_53178_13 (fun H locs hP hD hS => ?_)
        have hP : va_P G vwCl ([(x1, .inl (T 0, len, .inl (upd (fa_fill2 v f i) i v)))]) H := hP
        have hD : va_D (va_A ([(x1, .inl (T 0, len, .inl f))]) s.heap.size) ([(x1, .inl (T 0, len, .inl (upd (fa_fill2 v f i) i v)))]) := hD
        refine lv_iinc (v := nI (i + 1)) (lv' := [(2, .int (nI (i + 1))), (0, .ref x1), (1, .int v), (3, .int (nI len))]) hx hb dJ7_fill_53178_14 hl (k := 2) rfl (by first | rfl | exact (nI_add i 1)) (by decide) rfl (fun ls hl => ?_)
        refine lv_goto (tgt := 5) hx hb dJ7_fill_53178_17 (by decide) ?_
        exact ih5 (i + 1) _ _ _ (by omega) (by omega) (gfin hP (by rw [gfill_up])) (gfinD hD (by rw [gfill_up])) hS (lv_sub hl [1, 2, 0, 3] rfl)
  exact J5 (len + 1) 0 _ _ _ (by omega) (by omega) (gfin hP (by rw [fa_fill2_0])) (gfinD hD (by rw [fa_fill2_0])) hS (lv_sub hl [2, 3, 1, 0] rfl)
abbrev PX0_dropBids (G : va_G) (T : Nat → ClassId) (x1 x2 x3 : Nat) (N f g : Nat → Int32) (sz : Nat) : Array Value → State → Prop := gPc G T [.ref x1] (cN T x1 x2 x3 N f g) sz
abbrev QX0_dropBids (G : va_G) (T : Nat → ClassId) (x1 x2 x3 : Nat) (N f g : Nat → Int32) (sz : Nat) : Array Value → State → Outcome → State → Prop := va_Qv (fun _ : Unit => True) (gB G (cN T x1 x2 x3 N (fun _ => 0) g)) (va_A (cN T x1 x2 x3 N f g) sz)
set_option maxHeartbeats 4000000 in
set_option maxRecDepth 100000 in
theorem kX0_dropBids (l : Launch) (G : va_G) (T : Nat → ClassId) (x1 x2 x3 : Nat) (N f g : Nat → Int32) (sz : Nat)  : Met l yX0_dropBids wsX0_dropBids ({ frames := 1, cells := 0, slots := 0, locals := 23 } : Room) (PX0_dropBids G T x1 x2 x3 N f g sz) (QX0_dropBids G T x1 x2 x3 N f g sz) 0 0 (va_A (cN T x1 x2 x3 N f g) sz) := by
  refine Met.ofW (cc := cX0_dropBids) (maxL := 1) (ret := none) (by decide) rfl ?_
  intro p e s m args below meth c s₁ B hml hv
  obtain ⟨rfl, hsz, hP, hK, hD0, hE⟩ := hv
  have hx := B.exec
  have hb := B.bytes
  have hr := B.returns
  have hts := atoms_spec (ws := wsX0_dropBids) B.pre
  have hown : s.vm.findClass RX0 = some m.cls := findClass_of_methodNamed B.named
  have hlocks := B.notSynchronized
  subst hsz
  have hD := hD0.self (sz := s.heap.size)
  have hA : ∀ q : Nat, s.heap.size ≤ q → (va_A (cN T x1 x2 x3 N f g) s.heap.size) q := fun q h => Or.inr h
  have hS : va_S (va_A (cN T x1 x2 x3 N f g) s.heap.size) s.heap s.heap [] := va_S.rf
  have hiRX0 : ∀ w ∈ u_ws RX0 TX0 11, w ∈ wsX0_dropBids := by decide +kernel
  have hl := lv_entry ([.ref x1]) (n := 1) (Nat.le_of_ble_eq_true rfl)
  rw [lg_entry_eq]
  generalize (lg_sl ([.ref x1]) ++ List.replicate (1 - (lg_sl ([.ref x1])).length) Slot.unset).toArray = ls at hl ⊢
  have hl : lv_has ls 1 [(0, .ref x1)] := hl
  have hP : va_P G vwCl (cN T x1 x2 x3 N f g) s.heap := hP
  refine lv_aload_n hx hb dX0_dropBids_0 rfl (lv_at hl 0 rfl) ?_
  refine va_get (D := G) (ci := 0) (v := .ref x2) (C := RX0) (T := TX0) (N := 11) hx hb hts hiRX0 hown hK hP 0 rfl rfl 9 (by decide) (hts (.fieldLink RX0 18 "NameAuction$Name" "amounts" "[I") (by decide +kernel)) (fun _ h9 => h9) rfl dX0_dropBids_1 ?_
  refine lv_iconst (v := 0) hx hb dX0_dropBids_4 (by decide) ?_
  refine gcv (va_runS (As := [.ref x2, .int 0]) (rest := []) ⟨hx, hb, hml, hown, hts⟩ (kJ7_fill_53178 l G T x2 6 f 0 _ (by decide)) (va_cwS 2 hts gX0_dropBids_J7_fill_53178 rfl rfl rfl (by decide +kernel) ⟨Nat.le_of_ble_eq_true rfl, Nat.le_of_ble_eq_true rfl⟩) ⟨gblind, gpre hE hK hP hD hS hA [1] rfl rfl⟩ rfl rfl hl.1 rfl (lv_room (Nat.le_of_ble_eq_true rfl)) dX0_dropBids_5 ⟨Nat.le_of_ble_eq_true rfl, Nat.le_of_ble_eq_true rfl⟩) hP hD hS hA [1] rfl rfl (fun H locs hw hP hD hS => ?_)
  have hP : va_P G vwCl (cN T x1 x2 x3 N (fun _ => 0) g) H := hP
  have hD : va_D (va_A (cN T x1 x2 x3 N f g) s.heap.size) (cN T x1 x2 x3 N (fun _ => 0) g) := hD
  exact W.vret hx hb hr (fun t ht9 hW => ⟨⟨(), rfl, trivial, gBi ht9 (gfin hP (rfl))⟩, hS.F ht9⟩) hS.2.2 dX0_dropBids_8
abbrev PX0_beginAuction (G : va_G) (T : Nat → ClassId) (x1 x2 x3 : Nat) (N f g : Nat → Int32) (p0 : Int32) (sz : Nat) : Array Value → State → Prop := gPc G T [.ref x1, .int p0] (cN T x1 x2 x3 N f g) sz
abbrev QX0_beginAuction (G : va_G) (T : Nat → ClassId) (x1 x2 x3 : Nat) (N f g : Nat → Int32) (p0 : Int32) (sz : Nat) : Array Value → State → Outcome → State → Prop := va_Qv (fun _ : Unit => True) (gB G (cN T x1 x2 x3 (upd (upd N 0 1) 2 (p0 + 5)) f g)) (va_A (cN T x1 x2 x3 N f g) sz)
set_option maxHeartbeats 4000000 in
set_option maxRecDepth 100000 in
theorem kX0_beginAuction (l : Launch) (G : va_G) (T : Nat → ClassId) (x1 x2 x3 : Nat) (N f g : Nat → Int32) (p0 : Int32) (sz : Nat)  : Met l yX0_beginAuction wsX0_beginAuction ({ frames := 0, cells := 0, slots := 0, locals := 0 } : Room) (PX0_beginAuction G T x1 x2 x3 N f g p0 sz) (QX0_beginAuction G T x1 x2 x3 N f g p0 sz) 0 0 (va_A (cN T x1 x2 x3 N f g) sz) := by
  refine Met.ofW (cc := cX0_beginAuction) (maxL := 2) (ret := none) (by decide) rfl ?_
  intro p e s m args below meth c s₁ B hml hv
  obtain ⟨rfl, hsz, hP, hK, hD0, hE⟩ := hv
  have hx := B.exec
  have hb := B.bytes
  have hr := B.returns
  have hts := atoms_spec (ws := wsX0_beginAuction) B.pre
  have hown : s.vm.findClass RX0 = some m.cls := findClass_of_methodNamed B.named
  have hlocks := B.notSynchronized
  subst hsz
  have hD := hD0.self (sz := s.heap.size)
  have hA : ∀ q : Nat, s.heap.size ≤ q → (va_A (cN T x1 x2 x3 N f g) s.heap.size) q := fun q h => Or.inr h
  have hS : va_S (va_A (cN T x1 x2 x3 N f g) s.heap.size) s.heap s.heap [] := va_S.rf
  have hiRX0 : ∀ w ∈ u_ws RX0 TX0 11, w ∈ wsX0_beginAuction := by decide +kernel
  have hl := lv_entry ([.ref x1, .int p0]) (n := 2) (Nat.le_of_ble_eq_true rfl)
  rw [lg_entry_eq]
  generalize (lg_sl ([.ref x1, .int p0]) ++ List.replicate (2 - (lg_sl ([.ref x1, .int p0])).length) Slot.unset).toArray = ls at hl ⊢
  have hl : lv_has ls 2 [(0, .ref x1), (1, .int p0)] := hl
  have hP : va_P G vwCl (cN T x1 x2 x3 N f g) s.heap := hP
  refine lv_aload_n hx hb dX0_beginAuction_0 rfl (lv_at hl 0 rfl) ?_
  refine lv_iconst (v := 1) hx hb dX0_beginAuction_1 (by decide) ?_
  refine va_put (D := G) (ci := 0) (v := .int 1) (ty := .int) (C := RX0) (T := TX0) (N := 11) hx hb hts hiRX0 tyX0 tyX0_ok nmX0 hown hK hP hD hS 0 rfl rfl 0 (by decide) (hts (.fieldLink RX0 9 "NameAuction$Name" "phase" "I") (by decide +kernel)) (fun _ h9 => h9) rfl (by decide +kernel) rfl rfl (Nat.le_of_ble_eq_true rfl) dX0_beginAuction_2 (fun H locs hP hD hS => ?_)
  have hP : va_P G vwCl (cN T x1 x2 x3 (upd N 0 1) f g) H := hP
  have hD : va_D (va_A (cN T x1 x2 x3 N f g) s.heap.size) (cN T x1 x2 x3 (upd N 0 1) f g) := hD
  refine lv_aload_n hx hb dX0_beginAuction_5 rfl (lv_at hl 0 rfl) ?_
  refine lv_iload_n hx hb dX0_beginAuction_6 rfl (lv_at hl 1 rfl) ?_
  refine lv_iconst (v := 5) hx hb dX0_beginAuction_7 (by decide) ?_
  refine lv_iadd hx hb dX0_beginAuction_8 ?_
  refine va_put (D := G) (ci := 0) (v := .int (p0 + 5)) (ty := .int) (C := RX0) (T := TX0) (N := 11) hx hb hts hiRX0 tyX0 tyX0_ok nmX0 hown hK hP hD hS 0 rfl rfl 2 (by decide) (hts (.fieldLink RX0 25 "NameAuction$Name" "closing" "I") (by decide +kernel)) (fun _ h9 => h9) rfl (by decide +kernel) rfl rfl (Nat.le_of_ble_eq_true rfl) dX0_beginAuction_9 (fun H locs hP hD hS => ?_)
  have hP : va_P G vwCl (cN T x1 x2 x3 (upd (upd N 0 1) 2 (p0 + 5)) f g) H := hP
  have hD : va_D (va_A (cN T x1 x2 x3 N f g) s.heap.size) (cN T x1 x2 x3 (upd (upd N 0 1) 2 (p0 + 5)) f g) := hD
  exact W.vret hx hb hr (fun t ht9 hW => ⟨⟨(), rfl, trivial, gBi ht9 (gfin hP (rfl))⟩, hS.F ht9⟩) hS.2.2 dX0_beginAuction_12
abbrev PX0_leaseTo (G : va_G) (T : Nat → ClassId) (x1 x2 x3 : Nat) (N f g : Nat → Int32) (p0 p1 : Int32) (sz : Nat) : Array Value → State → Prop := gPc G T [.ref x1, .int p0, .int p1] (cN T x1 x2 x3 N f g) sz
abbrev QX0_leaseTo (G : va_G) (T : Nat → ClassId) (x1 x2 x3 : Nat) (N f g : Nat → Int32) (p0 p1 : Int32) (sz : Nat) : Array Value → State → Outcome → State → Prop := va_Qv (fun _ : Unit => True) (gB G (cN T x1 x2 x3 (upd (upd (upd (upd (upd N 0 2) 1 p0) 3 (p1 + 100)) 4 0) 5 10) (fun _ => 0) g)) (va_A (cN T x1 x2 x3 N f g) sz)
set_option maxHeartbeats 4000000 in
set_option maxRecDepth 100000 in
theorem kX0_leaseTo (l : Launch) (G : va_G) (T : Nat → ClassId) (x1 x2 x3 : Nat) (N f g : Nat → Int32) (p0 p1 : Int32) (sz : Nat)  : Met l yX0_leaseTo wsX0_leaseTo ({ frames := 2, cells := 0, slots := 0, locals := 43 } : Room) (PX0_leaseTo G T x1 x2 x3 N f g p0 p1 sz) (QX0_leaseTo G T x1 x2 x3 N f g p0 p1 sz) 0 0 (va_A (cN T x1 x2 x3 N f g) sz) := by
  refine Met.ofW (cc := cX0_leaseTo) (maxL := 3) (ret := none) (by decide) rfl ?_
  intro p e s m args below meth c s₁ B hml hv
  obtain ⟨rfl, hsz, hP, hK, hD0, hE⟩ := hv
  have hx := B.exec
  have hb := B.bytes
  have hr := B.returns
  have hts := atoms_spec (ws := wsX0_leaseTo) B.pre
  have hown : s.vm.findClass RX0 = some m.cls := findClass_of_methodNamed B.named
  have hlocks := B.notSynchronized
  subst hsz
  have hD := hD0.self (sz := s.heap.size)
  have hA : ∀ q : Nat, s.heap.size ≤ q → (va_A (cN T x1 x2 x3 N f g) s.heap.size) q := fun q h => Or.inr h
  have hS : va_S (va_A (cN T x1 x2 x3 N f g) s.heap.size) s.heap s.heap [] := va_S.rf
  have hiRX0 : ∀ w ∈ u_ws RX0 TX0 11, w ∈ wsX0_leaseTo := by decide +kernel
  have hl := lv_entry ([.ref x1, .int p0, .int p1]) (n := 3) (Nat.le_of_ble_eq_true rfl)
  rw [lg_entry_eq]
  generalize (lg_sl ([.ref x1, .int p0, .int p1]) ++ List.replicate (3 - (lg_sl ([.ref x1, .int p0, .int p1])).length) Slot.unset).toArray = ls at hl ⊢
  have hl : lv_has ls 3 [(0, .ref x1), (1, .int p0), (2, .int p1)] := hl
  have hP : va_P G vwCl (cN T x1 x2 x3 N f g) s.heap := hP
  refine lv_aload_n hx hb dX0_leaseTo_0 rfl (lv_at hl 0 rfl) ?_
  refine gcv (va_runV (As := []) (rest := []) ⟨hx, hb, hml, hown, hts⟩ (kX0_dropBids l G T x1 x2 x3 N f g _) (cwV 0 hts gX0_leaseTo_X0_dropBids rfl rfl rfl (by decide +kernel) ⟨Nat.le_of_ble_eq_true rfl, Nat.le_of_ble_eq_true rfl⟩) ⟨gblind, va_recv hK hP (ci := 0) (q0 := 0) rfl rfl, gpre hE hK hP hD hS hA [0, 1, 2] rfl rfl⟩ rfl rfl hl.1 rfl (lv_room (Nat.le_of_ble_eq_true rfl)) dX0_leaseTo_1 ⟨Nat.le_of_ble_eq_true rfl, Nat.le_of_ble_eq_true rfl⟩) hP hD hS hA [0, 1, 2] rfl rfl (fun H locs hw hP hD hS => ?_)
  have hP : va_P G vwCl (cN T x1 x2 x3 N (fun _ => 0) g) H := hP
  have hD : va_D (va_A (cN T x1 x2 x3 N f g) s.heap.size) (cN T x1 x2 x3 N (fun _ => 0) g) := hD
  refine lv_aload_n hx hb dX0_leaseTo_4 rfl (lv_at hl 0 rfl) ?_
  refine lv_iconst (v := 2) hx hb dX0_leaseTo_5 (by decide) ?_
  refine va_put (D := G) (ci := 0) (v := .int 2) (ty := .int) (C := RX0) (T := TX0) (N := 11) hx hb hts hiRX0 tyX0 tyX0_ok nmX0 hown hK hP hD hS 0 rfl rfl 0 (by decide) (hts (.fieldLink RX0 9 "NameAuction$Name" "phase" "I") (by decide +kernel)) (fun _ h9 => h9) rfl (by decide +kernel) rfl rfl (Nat.le_of_ble_eq_true rfl) dX0_leaseTo_6 (fun H locs hP hD hS => ?_)
  have hP : va_P G vwCl (cN T x1 x2 x3 (upd N 0 2) (fun _ => 0) g) H := hP
  have hD : va_D (va_A (cN T x1 x2 x3 N f g) s.heap.size) (cN T x1 x2 x3 (upd N 0 2) (fun _ => 0) g) := hD
  refine lv_aload_n hx hb dX0_leaseTo_9 rfl (lv_at hl 0 rfl) ?_
  refine lv_iload_n hx hb dX0_leaseTo_10 rfl (lv_at hl 1 rfl) ?_
  refine va_put (D := G) (ci := 0) (v := .int p0) (ty := .int) (C := RX0) (T := TX0) (N := 11) hx hb hts hiRX0 tyX0 tyX0_ok nmX0 hown hK hP hD hS 0 rfl rfl 1 (by decide) (hts (.fieldLink RX0 15 "NameAuction$Name" "holder" "I") (by decide +kernel)) (fun _ h9 => h9) rfl (by decide +kernel) rfl rfl (Nat.le_of_ble_eq_true rfl) dX0_leaseTo_11 (fun H locs hP hD hS => ?_)
  have hP : va_P G vwCl (cN T x1 x2 x3 (upd (upd N 0 2) 1 p0) (fun _ => 0) g) H := hP
  have hD : va_D (va_A (cN T x1 x2 x3 N f g) s.heap.size) (cN T x1 x2 x3 (upd (upd N 0 2) 1 p0) (fun _ => 0) g) := hD
  refine lv_aload_n hx hb dX0_leaseTo_14 rfl (lv_at hl 0 rfl) ?_
  refine lv_iload_n hx hb dX0_leaseTo_15 rfl (lv_at hl 2 rfl) ?_
  refine lv_bipush (v := 100) hx hb dX0_leaseTo_16 (by decide) ?_
  refine lv_iadd hx hb dX0_leaseTo_18 ?_
  refine va_put (D := G) (ci := 0) (v := .int (p1 + 100)) (ty := .int) (C := RX0) (T := TX0) (N := 11) hx hb hts hiRX0 tyX0 tyX0_ok nmX0 hown hK hP hD hS 0 rfl rfl 3 (by decide) (hts (.fieldLink RX0 31 "NameAuction$Name" "end" "I") (by decide +kernel)) (fun _ h9 => h9) rfl (by decide +kernel) rfl rfl (Nat.le_of_ble_eq_true rfl) dX0_leaseTo_19 (fun H locs hP hD hS => ?_)
  have hP : va_P G vwCl (cN T x1 x2 x3 (upd (upd (upd N 0 2) 1 p0) 3 (p1 + 100)) (fun _ => 0) g) H := hP
  have hD : va_D (va_A (cN T x1 x2 x3 N f g) s.heap.size) (cN T x1 x2 x3 (upd (upd (upd N 0 2) 1 p0) 3 (p1 + 100)) (fun _ => 0) g) := hD
  refine lv_aload_n hx hb dX0_leaseTo_22 rfl (lv_at hl 0 rfl) ?_
  refine lv_iconst (v := 0) hx hb dX0_leaseTo_23 (by decide) ?_
  refine va_put (D := G) (ci := 0) (v := .int 0) (ty := .int) (C := RX0) (T := TX0) (N := 11) hx hb hts hiRX0 tyX0 tyX0_ok nmX0 hown hK hP hD hS 0 rfl rfl 4 (by decide) (hts (.fieldLink RX0 34 "NameAuction$Name" "record" "I") (by decide +kernel)) (fun _ h9 => h9) rfl (by decide +kernel) rfl rfl (Nat.le_of_ble_eq_true rfl) dX0_leaseTo_24 (fun H locs hP hD hS => ?_)
  have hP : va_P G vwCl (cN T x1 x2 x3 (upd (upd (upd (upd N 0 2) 1 p0) 3 (p1 + 100)) 4 0) (fun _ => 0) g) H := hP
  have hD : va_D (va_A (cN T x1 x2 x3 N f g) s.heap.size) (cN T x1 x2 x3 (upd (upd (upd (upd N 0 2) 1 p0) 3 (p1 + 100)) 4 0) (fun _ => 0) g) := hD
  refine lv_aload_n hx hb dX0_leaseTo_27 rfl (lv_at hl 0 rfl) ?_
  refine lv_bipush (v := 10) hx hb dX0_leaseTo_28 (by decide) ?_
  refine va_put (D := G) (ci := 0) (v := .int 10) (ty := .int) (C := RX0) (T := TX0) (N := 11) hx hb hts hiRX0 tyX0 tyX0_ok nmX0 hown hK hP hD hS 0 rfl rfl 5 (by decide) (hts (.fieldLink RX0 37 "NameAuction$Name" "lifetime" "I") (by decide +kernel)) (fun _ h9 => h9) rfl (by decide +kernel) rfl rfl (Nat.le_of_ble_eq_true rfl) dX0_leaseTo_30 (fun H locs hP hD hS => ?_)
  have hP : va_P G vwCl (cN T x1 x2 x3 (upd (upd (upd (upd (upd N 0 2) 1 p0) 3 (p1 + 100)) 4 0) 5 10) (fun _ => 0) g) H := hP
  have hD : va_D (va_A (cN T x1 x2 x3 N f g) s.heap.size) (cN T x1 x2 x3 (upd (upd (upd (upd (upd N 0 2) 1 p0) 3 (p1 + 100)) 4 0) 5 10) (fun _ => 0) g) := hD
  exact W.vret hx hb hr (fun t ht9 hW => ⟨⟨(), rfl, trivial, gBi ht9 (gfin hP (rfl))⟩, hS.F ht9⟩) hS.2.2 dX0_leaseTo_33
abbrev PX0_release (G : va_G) (T : Nat → ClassId) (x1 x2 x3 : Nat) (N f g : Nat → Int32) (sz : Nat) : Array Value → State → Prop := gPc G T [.ref x1] (cN T x1 x2 x3 N f g) sz
abbrev QX0_release (G : va_G) (T : Nat → ClassId) (x1 x2 x3 : Nat) (N f g : Nat → Int32) (sz : Nat) : Array Value → State → Outcome → State → Prop := va_Qv (fun _ : Unit => True) (gB G (cN T x1 x2 x3 (upd (upd N 0 0) 1 (-1)) (fun _ => 0) g)) (va_A (cN T x1 x2 x3 N f g) sz)
set_option maxHeartbeats 4000000 in
set_option maxRecDepth 100000 in
theorem kX0_release (l : Launch) (G : va_G) (T : Nat → ClassId) (x1 x2 x3 : Nat) (N f g : Nat → Int32) (sz : Nat)  : Met l yX0_release wsX0_release ({ frames := 2, cells := 0, slots := 0, locals := 43 } : Room) (PX0_release G T x1 x2 x3 N f g sz) (QX0_release G T x1 x2 x3 N f g sz) 0 0 (va_A (cN T x1 x2 x3 N f g) sz) := by
  refine Met.ofW (cc := cX0_release) (maxL := 1) (ret := none) (by decide) rfl ?_
  intro p e s m args below meth c s₁ B hml hv
  obtain ⟨rfl, hsz, hP, hK, hD0, hE⟩ := hv
  have hx := B.exec
  have hb := B.bytes
  have hr := B.returns
  have hts := atoms_spec (ws := wsX0_release) B.pre
  have hown : s.vm.findClass RX0 = some m.cls := findClass_of_methodNamed B.named
  have hlocks := B.notSynchronized
  subst hsz
  have hD := hD0.self (sz := s.heap.size)
  have hA : ∀ q : Nat, s.heap.size ≤ q → (va_A (cN T x1 x2 x3 N f g) s.heap.size) q := fun q h => Or.inr h
  have hS : va_S (va_A (cN T x1 x2 x3 N f g) s.heap.size) s.heap s.heap [] := va_S.rf
  have hiRX0 : ∀ w ∈ u_ws RX0 TX0 11, w ∈ wsX0_release := by decide +kernel
  have hl := lv_entry ([.ref x1]) (n := 1) (Nat.le_of_ble_eq_true rfl)
  rw [lg_entry_eq]
  generalize (lg_sl ([.ref x1]) ++ List.replicate (1 - (lg_sl ([.ref x1])).length) Slot.unset).toArray = ls at hl ⊢
  have hl : lv_has ls 1 [(0, .ref x1)] := hl
  have hP : va_P G vwCl (cN T x1 x2 x3 N f g) s.heap := hP
  refine lv_aload_n hx hb dX0_release_0 rfl (lv_at hl 0 rfl) ?_
  refine gcv (va_runV (As := []) (rest := []) ⟨hx, hb, hml, hown, hts⟩ (kX0_dropBids l G T x1 x2 x3 N f g _) (cwV 0 hts gX0_release_X0_dropBids rfl rfl rfl (by decide +kernel) ⟨Nat.le_of_ble_eq_true rfl, Nat.le_of_ble_eq_true rfl⟩) ⟨gblind, va_recv hK hP (ci := 0) (q0 := 0) rfl rfl, gpre hE hK hP hD hS hA [0, 1, 2] rfl rfl⟩ rfl rfl hl.1 rfl (lv_room (Nat.le_of_ble_eq_true rfl)) dX0_release_1 ⟨Nat.le_of_ble_eq_true rfl, Nat.le_of_ble_eq_true rfl⟩) hP hD hS hA [0, 1, 2] rfl rfl (fun H locs hw hP hD hS => ?_)
  have hP : va_P G vwCl (cN T x1 x2 x3 N (fun _ => 0) g) H := hP
  have hD : va_D (va_A (cN T x1 x2 x3 N f g) s.heap.size) (cN T x1 x2 x3 N (fun _ => 0) g) := hD
  refine lv_aload_n hx hb dX0_release_4 rfl (lv_at hl 0 rfl) ?_
  refine lv_iconst (v := 0) hx hb dX0_release_5 (by decide) ?_
  refine va_put (D := G) (ci := 0) (v := .int 0) (ty := .int) (C := RX0) (T := TX0) (N := 11) hx hb hts hiRX0 tyX0 tyX0_ok nmX0 hown hK hP hD hS 0 rfl rfl 0 (by decide) (hts (.fieldLink RX0 9 "NameAuction$Name" "phase" "I") (by decide +kernel)) (fun _ h9 => h9) rfl (by decide +kernel) rfl rfl (Nat.le_of_ble_eq_true rfl) dX0_release_6 (fun H locs hP hD hS => ?_)
  have hP : va_P G vwCl (cN T x1 x2 x3 (upd N 0 0) (fun _ => 0) g) H := hP
  have hD : va_D (va_A (cN T x1 x2 x3 N f g) s.heap.size) (cN T x1 x2 x3 (upd N 0 0) (fun _ => 0) g) := hD
  refine lv_aload_n hx hb dX0_release_9 rfl (lv_at hl 0 rfl) ?_
  refine lv_iconst (v := (-1)) hx hb dX0_release_10 (by decide) ?_
  refine va_put (D := G) (ci := 0) (v := .int (-1)) (ty := .int) (C := RX0) (T := TX0) (N := 11) hx hb hts hiRX0 tyX0 tyX0_ok nmX0 hown hK hP hD hS 0 rfl rfl 1 (by decide) (hts (.fieldLink RX0 15 "NameAuction$Name" "holder" "I") (by decide +kernel)) (fun _ h9 => h9) rfl (by decide +kernel) rfl rfl (Nat.le_of_ble_eq_true rfl) dX0_release_11 (fun H locs hP hD hS => ?_)
  have hP : va_P G vwCl (cN T x1 x2 x3 (upd (upd N 0 0) 1 (-1)) (fun _ => 0) g) H := hP
  have hD : va_D (va_A (cN T x1 x2 x3 N f g) s.heap.size) (cN T x1 x2 x3 (upd (upd N 0 0) 1 (-1)) (fun _ => 0) g) := hD
  exact W.vret hx hb hr (fun t ht9 hW => ⟨⟨(), rfl, trivial, gBi ht9 (gfin hP (rfl))⟩, hS.F ht9⟩) hS.2.2 dX0_release_14
/-- a name goes on: its ints, its amounts -/
def sGoOn (N : Nat → Int32) : Nat → Int32 := if N 0 = 2 then upd N 0 3 else if N 0 = 3 then upd N 0 4 else upd (upd N 0 0) 1 (-1)
def sGoOnF (N f : Nat → Int32) : Nat → Int32 := if N 0 = 2 then f else if N 0 = 3 then f else (fun _ => 0)
def sDay (N : Nat → Int32) : Int32 := if N 0 = 1 then N 2 else if N 0 = 2 then N 3 else if N 0 = 3 then N 3 + 10 else if N 0 = 4 then N 3 + 10 + 10 else -1
def sThaw (N : Nat → Int32) (b t : Int32) : Nat → Int32 := if N 6 = 1 then (if b = 0 then upd (upd N 0 0) 1 (-1) else upd (upd (upd (upd (upd N 0 2) 1 (N 7)) 3 (t + 100)) 4 0) 5 10) else upd (upd (upd N 0 (N 6)) 3 (N 3 + (t - N 8))) 1 (if b = 0 then N 1 else N 7)
def sThawF (N f : Nat → Int32) : Nat → Int32 := if N 6 = 1 then (fun _ => 0) else f
def sAhead (f g : Nat → Int32) (i j : Nat) : Int32 := if f i = f j then bI (decide (g i < g j)) else bI (decide (f j < f i))
def sHeld (x : Int32) : Int32 := bI (decide (x = 2 ∨ x = 3))
def sRec (N : Nat → Int32) : Int32 := sHeld (if N 0 = 5 then N 6 else N 0)
def sAns (N : Nat → Int32) : Int32 := if sRec N = 0 then -1 else N 4
def sLife (N : Nat → Int32) : Int32 := if sRec N = 0 then 5 else N 5
def sCnt (f : Nat → Int32) : Nat → Int32 | 0 => 0 | i + 1 => sCnt f i + (if 0 < f i then 1 else 0)
theorem bI_ok (b : Bool) : narrow .boolean (.int (bI b)) = .int (bI b) := by cases b <;> rfl
theorem bI_nar (b : Bool) : vp_nar .boolean (bI b) = bI b := by cases b <;> rfl
abbrev PX0_goOn (G : va_G) (T : Nat → ClassId) (x1 x2 x3 : Nat) (N f g : Nat → Int32) (sz : Nat) : Array Value → State → Prop := gPc G T [.ref x1] (cN T x1 x2 x3 N f g) sz
abbrev QX0_goOn (G : va_G) (T : Nat → ClassId) (x1 x2 x3 : Nat) (N f g : Nat → Int32) (sz : Nat) : Array Value → State → Outcome → State → Prop := va_Qv (fun _ : Unit => True) (gB G (cN T x1 x2 x3 (sGoOn N) (sGoOnF N f) g)) (va_A (cN T x1 x2 x3 N f g) sz)
set_option maxHeartbeats 4000000 in
set_option maxRecDepth 100000 in
theorem kX0_goOn (l : Launch) (G : va_G) (T : Nat → ClassId) (x1 x2 x3 : Nat) (N f g : Nat → Int32) (sz : Nat)  : Met l yX0_goOn wsX0_goOn ({ frames := 3, cells := 0, slots := 0, locals := 63 } : Room) (PX0_goOn G T x1 x2 x3 N f g sz) (QX0_goOn G T x1 x2 x3 N f g sz) 0 0 (va_A (cN T x1 x2 x3 N f g) sz) := by
  refine Met.ofW (cc := cX0_goOn) (maxL := 1) (ret := none) (by decide) rfl ?_
  intro p e s m args below meth c s₁ B hml hv
  obtain ⟨rfl, hsz, hP, hK, hD0, hE⟩ := hv
  have hx := B.exec
  have hb := B.bytes
  have hr := B.returns
  have hts := atoms_spec (ws := wsX0_goOn) B.pre
  have hown : s.vm.findClass RX0 = some m.cls := findClass_of_methodNamed B.named
  have hlocks := B.notSynchronized
  subst hsz
  have hD := hD0.self (sz := s.heap.size)
  have hA : ∀ q : Nat, s.heap.size ≤ q → (va_A (cN T x1 x2 x3 N f g) s.heap.size) q := fun q h => Or.inr h
  have hS : va_S (va_A (cN T x1 x2 x3 N f g) s.heap.size) s.heap s.heap [] := va_S.rf
  have hiRX0 : ∀ w ∈ u_ws RX0 TX0 11, w ∈ wsX0_goOn := by decide +kernel
  have hl := lv_entry ([.ref x1]) (n := 1) (Nat.le_of_ble_eq_true rfl)
  rw [lg_entry_eq]
  generalize (lg_sl ([.ref x1]) ++ List.replicate (1 - (lg_sl ([.ref x1])).length) Slot.unset).toArray = ls at hl ⊢
  have hl : lv_has ls 1 [(0, .ref x1)] := hl
  have hP : va_P G vwCl (cN T x1 x2 x3 N f g) s.heap := hP
  refine lv_aload_n hx hb dX0_goOn_0 rfl (lv_at hl 0 rfl) ?_
  refine va_get (D := G) (ci := 0) (v := .int (N 0)) (C := RX0) (T := TX0) (N := 11) hx hb hts hiRX0 hown hK hP 0 rfl rfl 0 (by decide) (hts (.fieldLink RX0 9 "NameAuction$Name" "phase" "I") (by decide +kernel)) (fun _ h9 => h9) rfl dX0_goOn_1 ?_
  refine lv_iconst (v := 2) hx hb dX0_goOn_4 (by decide) ?_
  refine lv_icmp_ne (tgt := 16) hx hb dX0_goOn_5 (by decide) (fun c5 => ?_) (fun c5 => ?_)
  · skip
    refine lv_aload_n hx hb dX0_goOn_16 rfl (lv_at hl 0 rfl) ?_
    refine va_get (D := G) (ci := 0) (v := .int (N 0)) (C := RX0) (T := TX0) (N := 11) hx hb hts hiRX0 hown hK hP 0 rfl rfl 0 (by decide) (hts (.fieldLink RX0 9 "NameAuction$Name" "phase" "I") (by decide +kernel)) (fun _ h9 => h9) rfl dX0_goOn_17 ?_
    refine lv_iconst (v := 3) hx hb dX0_goOn_20 (by decide) ?_
    refine lv_icmp_ne (tgt := 32) hx hb dX0_goOn_21 (by decide) (fun c21 => ?_) (fun c21 => ?_)
    · skip
      refine lv_aload_n hx hb dX0_goOn_32 rfl (lv_at hl 0 rfl) ?_
      refine gcv (va_runV (As := []) (rest := []) ⟨hx, hb, hml, hown, hts⟩ (kX0_release l G T x1 x2 x3 N f g _) (cwV 0 hts gX0_goOn_X0_release rfl rfl rfl (by decide +kernel) ⟨Nat.le_of_ble_eq_true rfl, Nat.le_of_ble_eq_true rfl⟩) ⟨gblind, va_recv hK hP (ci := 0) (q0 := 0) rfl rfl, gpre hE hK hP hD hS hA [0, 1, 2] rfl rfl⟩ rfl rfl hl.1 rfl (lv_room (Nat.le_of_ble_eq_true rfl)) dX0_goOn_33 ⟨Nat.le_of_ble_eq_true rfl, Nat.le_of_ble_eq_true rfl⟩) hP hD hS hA [0, 1, 2] rfl rfl (fun H locs hw hP hD hS => ?_)
      have hP : va_P G vwCl (cN T x1 x2 x3 (upd (upd N 0 0) 1 (-1)) (fun _ => 0) g) H := hP
      have hD : va_D (va_A (cN T x1 x2 x3 N f g) s.heap.size) (cN T x1 x2 x3 (upd (upd N 0 0) 1 (-1)) (fun _ => 0) g) := hD
      exact W.vret hx hb hr (fun t ht9 hW => ⟨⟨(), rfl, trivial, gBi ht9 (gfin hP (by simp only [sGoOn, sGoOnF]; simp [*]))⟩, hS.F ht9⟩) hS.2.2 dX0_goOn_36
    · skip
      refine lv_aload_n hx hb dX0_goOn_24 rfl (lv_at hl 0 rfl) ?_
      refine lv_iconst (v := 4) hx hb dX0_goOn_25 (by decide) ?_
      refine va_put (D := G) (ci := 0) (v := .int 4) (ty := .int) (C := RX0) (T := TX0) (N := 11) hx hb hts hiRX0 tyX0 tyX0_ok nmX0 hown hK hP hD hS 0 rfl rfl 0 (by decide) (hts (.fieldLink RX0 9 "NameAuction$Name" "phase" "I") (by decide +kernel)) (fun _ h9 => h9) rfl (by decide +kernel) rfl rfl (Nat.le_of_ble_eq_true rfl) dX0_goOn_26 (fun H locs hP hD hS => ?_)
      have hP : va_P G vwCl (cN T x1 x2 x3 (upd N 0 4) f g) H := hP
      have hD : va_D (va_A (cN T x1 x2 x3 N f g) s.heap.size) (cN T x1 x2 x3 (upd N 0 4) f g) := hD
      refine lv_goto (tgt := 36) hx hb dX0_goOn_29 (by decide) ?_
      exact W.vret hx hb hr (fun t ht9 hW => ⟨⟨(), rfl, trivial, gBi ht9 (gfin hP (by simp only [sGoOn, sGoOnF]; simp [*]))⟩, hS.F ht9⟩) hS.2.2 dX0_goOn_36
  · skip
    refine lv_aload_n hx hb dX0_goOn_8 rfl (lv_at hl 0 rfl) ?_
    refine lv_iconst (v := 3) hx hb dX0_goOn_9 (by decide) ?_
    refine va_put (D := G) (ci := 0) (v := .int 3) (ty := .int) (C := RX0) (T := TX0) (N := 11) hx hb hts hiRX0 tyX0 tyX0_ok nmX0 hown hK hP hD hS 0 rfl rfl 0 (by decide) (hts (.fieldLink RX0 9 "NameAuction$Name" "phase" "I") (by decide +kernel)) (fun _ h9 => h9) rfl (by decide +kernel) rfl rfl (Nat.le_of_ble_eq_true rfl) dX0_goOn_10 (fun H locs hP hD hS => ?_)
    have hP : va_P G vwCl (cN T x1 x2 x3 (upd N 0 3) f g) H := hP
    have hD : va_D (va_A (cN T x1 x2 x3 N f g) s.heap.size) (cN T x1 x2 x3 (upd N 0 3) f g) := hD
    refine lv_goto (tgt := 36) hx hb dX0_goOn_13 (by decide) ?_
    exact W.vret hx hb hr (fun t ht9 hW => ⟨⟨(), rfl, trivial, gBi ht9 (gfin hP (by simp only [sGoOn, sGoOnF]; simp [*]))⟩, hS.F ht9⟩) hS.2.2 dX0_goOn_36
abbrev PX0_dayOfChange (G : va_G) (T : Nat → ClassId) (x1 x2 x3 : Nat) (N f g : Nat → Int32) (sz : Nat) : Array Value → State → Prop := gPc G T [.ref x1] (cN T x1 x2 x3 N f g) sz
abbrev QX0_dayOfChange (G : va_G) (T : Nat → ClassId) (x1 x2 x3 : Nat) (N f g : Nat → Int32) (sz : Nat) : Array Value → State → Outcome → State → Prop := va_Qi (fun (r : Int32) (_ : Unit) => r = sDay N) (gB G (cN T x1 x2 x3 N f g)) (va_A (cN T x1 x2 x3 N f g) sz)
set_option maxHeartbeats 4000000 in
set_option maxRecDepth 100000 in
theorem kX0_dayOfChange (l : Launch) (G : va_G) (T : Nat → ClassId) (x1 x2 x3 : Nat) (N f g : Nat → Int32) (sz : Nat)  : Met l yX0_dayOfChange wsX0_dayOfChange ({ frames := 0, cells := 0, slots := 0, locals := 0 } : Room) (PX0_dayOfChange G T x1 x2 x3 N f g sz) (QX0_dayOfChange G T x1 x2 x3 N f g sz) 0 0 (va_A (cN T x1 x2 x3 N f g) sz) := by
  refine Met.ofW (cc := cX0_dayOfChange) (maxL := 1) (ret := (some .int)) (by decide) rfl ?_
  intro p e s m args below meth c s₁ B hml hv
  obtain ⟨rfl, hsz, hP, hK, hD0, hE⟩ := hv
  have hx := B.exec
  have hb := B.bytes
  have hr := B.returns
  have hts := atoms_spec (ws := wsX0_dayOfChange) B.pre
  have hown : s.vm.findClass RX0 = some m.cls := findClass_of_methodNamed B.named
  have hlocks := B.notSynchronized
  subst hsz
  have hD := hD0.self (sz := s.heap.size)
  have hA : ∀ q : Nat, s.heap.size ≤ q → (va_A (cN T x1 x2 x3 N f g) s.heap.size) q := fun q h => Or.inr h
  have hS : va_S (va_A (cN T x1 x2 x3 N f g) s.heap.size) s.heap s.heap [] := va_S.rf
  have hiRX0 : ∀ w ∈ u_ws RX0 TX0 11, w ∈ wsX0_dayOfChange := by decide +kernel
  have hl := lv_entry ([.ref x1]) (n := 1) (Nat.le_of_ble_eq_true rfl)
  rw [lg_entry_eq]
  generalize (lg_sl ([.ref x1]) ++ List.replicate (1 - (lg_sl ([.ref x1])).length) Slot.unset).toArray = ls at hl ⊢
  have hl : lv_has ls 1 [(0, .ref x1)] := hl
  have hP : va_P G vwCl (cN T x1 x2 x3 N f g) s.heap := hP
  refine lv_aload_n hx hb dX0_dayOfChange_0 rfl (lv_at hl 0 rfl) ?_
  refine va_get (D := G) (ci := 0) (v := .int (N 0)) (C := RX0) (T := TX0) (N := 11) hx hb hts hiRX0 hown hK hP 0 rfl rfl 0 (by decide) (hts (.fieldLink RX0 9 "NameAuction$Name" "phase" "I") (by decide +kernel)) (fun _ h9 => h9) rfl dX0_dayOfChange_1 ?_
  by_cases c4_1 : N 0 = 1
  · skip
    refine lv_tableIn (off := 32) (tgt := 36) hx hb dX0_dayOfChange_4 (by rw [c4_1]; decide) (by rw [c4_1]; decide) (by rw [c4_1]; decide) (by decide) ?_
    refine lv_aload_n hx hb dX0_dayOfChange_36 rfl (lv_at hl 0 rfl) ?_
    refine va_get (D := G) (ci := 0) (v := .int (N 2)) (C := RX0) (T := TX0) (N := 11) hx hb hts hiRX0 hown hK hP 0 rfl rfl 2 (by decide) (hts (.fieldLink RX0 25 "NameAuction$Name" "closing" "I") (by decide +kernel)) (fun _ h9 => h9) rfl dX0_dayOfChange_37 ?_
    exact W.iret (v := N 2) hx hb hr (fun t ht9 hW => ⟨⟨N 2, (), rfl, by simp [sDay, *], gBi ht9 (gfin hP (rfl))⟩, hS.F ht9⟩) hS.2.2 dX0_dayOfChange_40
  · skip
    by_cases c4_2 : N 0 = 2
    · skip
      refine lv_tableIn (off := 37) (tgt := 41) hx hb dX0_dayOfChange_4 (by rw [c4_2]; decide) (by rw [c4_2]; decide) (by rw [c4_2]; decide) (by decide) ?_
      refine lv_aload_n hx hb dX0_dayOfChange_41 rfl (lv_at hl 0 rfl) ?_
      refine va_get (D := G) (ci := 0) (v := .int (N 3)) (C := RX0) (T := TX0) (N := 11) hx hb hts hiRX0 hown hK hP 0 rfl rfl 3 (by decide) (hts (.fieldLink RX0 31 "NameAuction$Name" "end" "I") (by decide +kernel)) (fun _ h9 => h9) rfl dX0_dayOfChange_42 ?_
      exact W.iret (v := N 3) hx hb hr (fun t ht9 hW => ⟨⟨N 3, (), rfl, by simp [sDay, *], gBi ht9 (gfin hP (rfl))⟩, hS.F ht9⟩) hS.2.2 dX0_dayOfChange_45
    · skip
      by_cases c4_3 : N 0 = 3
      · skip
        refine lv_tableIn (off := 42) (tgt := 46) hx hb dX0_dayOfChange_4 (by rw [c4_3]; decide) (by rw [c4_3]; decide) (by rw [c4_3]; decide) (by decide) ?_
        refine lv_aload_n hx hb dX0_dayOfChange_46 rfl (lv_at hl 0 rfl) ?_
        refine va_get (D := G) (ci := 0) (v := .int (N 3)) (C := RX0) (T := TX0) (N := 11) hx hb hts hiRX0 hown hK hP 0 rfl rfl 3 (by decide) (hts (.fieldLink RX0 31 "NameAuction$Name" "end" "I") (by decide +kernel)) (fun _ h9 => h9) rfl dX0_dayOfChange_47 ?_
        refine lv_bipush (v := 10) hx hb dX0_dayOfChange_50 (by decide) ?_
        refine lv_iadd hx hb dX0_dayOfChange_52 ?_
        exact W.iret (v := (N 3) + 10) hx hb hr (fun t ht9 hW => ⟨⟨(N 3) + 10, (), rfl, by simp [sDay, *], gBi ht9 (gfin hP (rfl))⟩, hS.F ht9⟩) hS.2.2 dX0_dayOfChange_53
      · skip
        by_cases c4_4 : N 0 = 4
        · skip
          refine lv_tableIn (off := 50) (tgt := 54) hx hb dX0_dayOfChange_4 (by rw [c4_4]; decide) (by rw [c4_4]; decide) (by rw [c4_4]; decide) (by decide) ?_
          refine lv_aload_n hx hb dX0_dayOfChange_54 rfl (lv_at hl 0 rfl) ?_
          refine va_get (D := G) (ci := 0) (v := .int (N 3)) (C := RX0) (T := TX0) (N := 11) hx hb hts hiRX0 hown hK hP 0 rfl rfl 3 (by decide) (hts (.fieldLink RX0 31 "NameAuction$Name" "end" "I") (by decide +kernel)) (fun _ h9 => h9) rfl dX0_dayOfChange_55 ?_
          refine lv_bipush (v := 10) hx hb dX0_dayOfChange_58 (by decide) ?_
          refine lv_iadd hx hb dX0_dayOfChange_60 ?_
          refine lv_bipush (v := 10) hx hb dX0_dayOfChange_61 (by decide) ?_
          refine lv_iadd hx hb dX0_dayOfChange_63 ?_
          exact W.iret (v := ((N 3) + 10) + 10) hx hb hr (fun t ht9 hW => ⟨⟨((N 3) + 10) + 10, (), rfl, by simp [sDay, *], gBi ht9 (gfin hP (rfl))⟩, hS.F ht9⟩) hS.2.2 dX0_dayOfChange_64
        · skip
          have e4_1 : (N 0).toInt ≠ 1 := fun z => c4_1 (Int32.toInt_inj.mp z)
          have e4_2 : (N 0).toInt ≠ 2 := fun z => c4_2 (Int32.toInt_inj.mp z)
          have e4_3 : (N 0).toInt ≠ 3 := fun z => c4_3 (Int32.toInt_inj.mp z)
          have e4_4 : (N 0).toInt ≠ 4 := fun z => c4_4 (Int32.toInt_inj.mp z)
          refine lv_tableOut (tgt := 65) hx hb dX0_dayOfChange_4 (by omega) (by decide) ?_
          refine lv_iconst (v := (-1)) hx hb dX0_dayOfChange_65 (by decide) ?_
          exact W.iret (v := (-1)) hx hb hr (fun t ht9 hW => ⟨⟨(-1), (), rfl, by simp [sDay, *], gBi ht9 (gfin hP (rfl))⟩, hS.F ht9⟩) hS.2.2 dX0_dayOfChange_66
abbrev PX0_freeze (G : va_G) (T : Nat → ClassId) (x1 x2 x3 : Nat) (N f g : Nat → Int32) (p0 p1 : Int32) (sz : Nat) : Array Value → State → Prop := gPc G T [.ref x1, .int p0, .int p1] (cN T x1 x2 x3 N f g) sz
abbrev QX0_freeze (G : va_G) (T : Nat → ClassId) (x1 x2 x3 : Nat) (N f g : Nat → Int32) (p0 p1 : Int32) (sz : Nat) : Array Value → State → Outcome → State → Prop := va_Qv (fun _ : Unit => True) (gB G (cN T x1 x2 x3 (upd (upd (upd (upd N 6 (N 0)) 0 5) 7 p0) 8 p1) (fun _ => 0) g)) (va_A (cN T x1 x2 x3 N f g) sz)
set_option maxHeartbeats 4000000 in
set_option maxRecDepth 100000 in
theorem kX0_freeze (l : Launch) (G : va_G) (T : Nat → ClassId) (x1 x2 x3 : Nat) (N f g : Nat → Int32) (p0 p1 : Int32) (sz : Nat)  : Met l yX0_freeze wsX0_freeze ({ frames := 2, cells := 0, slots := 0, locals := 43 } : Room) (PX0_freeze G T x1 x2 x3 N f g p0 p1 sz) (QX0_freeze G T x1 x2 x3 N f g p0 p1 sz) 0 0 (va_A (cN T x1 x2 x3 N f g) sz) := by
  refine Met.ofW (cc := cX0_freeze) (maxL := 3) (ret := none) (by decide) rfl ?_
  intro p e s m args below meth c s₁ B hml hv
  obtain ⟨rfl, hsz, hP, hK, hD0, hE⟩ := hv
  have hx := B.exec
  have hb := B.bytes
  have hr := B.returns
  have hts := atoms_spec (ws := wsX0_freeze) B.pre
  have hown : s.vm.findClass RX0 = some m.cls := findClass_of_methodNamed B.named
  have hlocks := B.notSynchronized
  subst hsz
  have hD := hD0.self (sz := s.heap.size)
  have hA : ∀ q : Nat, s.heap.size ≤ q → (va_A (cN T x1 x2 x3 N f g) s.heap.size) q := fun q h => Or.inr h
  have hS : va_S (va_A (cN T x1 x2 x3 N f g) s.heap.size) s.heap s.heap [] := va_S.rf
  have hiRX0 : ∀ w ∈ u_ws RX0 TX0 11, w ∈ wsX0_freeze := by decide +kernel
  have hl := lv_entry ([.ref x1, .int p0, .int p1]) (n := 3) (Nat.le_of_ble_eq_true rfl)
  rw [lg_entry_eq]
  generalize (lg_sl ([.ref x1, .int p0, .int p1]) ++ List.replicate (3 - (lg_sl ([.ref x1, .int p0, .int p1])).length) Slot.unset).toArray = ls at hl ⊢
  have hl : lv_has ls 3 [(0, .ref x1), (1, .int p0), (2, .int p1)] := hl
  have hP : va_P G vwCl (cN T x1 x2 x3 N f g) s.heap := hP
  refine lv_aload_n hx hb dX0_freeze_0 rfl (lv_at hl 0 rfl) ?_
  refine gcv (va_runV (As := []) (rest := []) ⟨hx, hb, hml, hown, hts⟩ (kX0_dropBids l G T x1 x2 x3 N f g _) (cwV 0 hts gX0_freeze_X0_dropBids rfl rfl rfl (by decide +kernel) ⟨Nat.le_of_ble_eq_true rfl, Nat.le_of_ble_eq_true rfl⟩) ⟨gblind, va_recv hK hP (ci := 0) (q0 := 0) rfl rfl, gpre hE hK hP hD hS hA [0, 1, 2] rfl rfl⟩ rfl rfl hl.1 rfl (lv_room (Nat.le_of_ble_eq_true rfl)) dX0_freeze_1 ⟨Nat.le_of_ble_eq_true rfl, Nat.le_of_ble_eq_true rfl⟩) hP hD hS hA [0, 1, 2] rfl rfl (fun H locs hw hP hD hS => ?_)
  have hP : va_P G vwCl (cN T x1 x2 x3 N (fun _ => 0) g) H := hP
  have hD : va_D (va_A (cN T x1 x2 x3 N f g) s.heap.size) (cN T x1 x2 x3 N (fun _ => 0) g) := hD
  refine lv_aload_n hx hb dX0_freeze_4 rfl (lv_at hl 0 rfl) ?_
  refine lv_aload_n hx hb dX0_freeze_5 rfl (lv_at hl 0 rfl) ?_
  refine va_get (D := G) (ci := 0) (v := .int (N 0)) (C := RX0) (T := TX0) (N := 11) hx hb hts hiRX0 hown hK hP 0 rfl rfl 0 (by decide) (hts (.fieldLink RX0 9 "NameAuction$Name" "phase" "I") (by decide +kernel)) (fun _ h9 => h9) rfl dX0_freeze_6 ?_
  refine va_put (D := G) (ci := 0) (v := .int (N 0)) (ty := .int) (C := RX0) (T := TX0) (N := 11) hx hb hts hiRX0 tyX0 tyX0_ok nmX0 hown hK hP hD hS 0 rfl rfl 6 (by decide) (hts (.fieldLink RX0 43 "NameAuction$Name" "phaseBefore" "I") (by decide +kernel)) (fun _ h9 => h9) rfl (by decide +kernel) rfl rfl (Nat.le_of_ble_eq_true rfl) dX0_freeze_9 (fun H locs hP hD hS => ?_)
  have hP : va_P G vwCl (cN T x1 x2 x3 (upd N 6 (N 0)) (fun _ => 0) g) H := hP
  have hD : va_D (va_A (cN T x1 x2 x3 N f g) s.heap.size) (cN T x1 x2 x3 (upd N 6 (N 0)) (fun _ => 0) g) := hD
  refine lv_aload_n hx hb dX0_freeze_12 rfl (lv_at hl 0 rfl) ?_
  refine lv_iconst (v := 5) hx hb dX0_freeze_13 (by decide) ?_
  refine va_put (D := G) (ci := 0) (v := .int 5) (ty := .int) (C := RX0) (T := TX0) (N := 11) hx hb hts hiRX0 tyX0 tyX0_ok nmX0 hown hK hP hD hS 0 rfl rfl 0 (by decide) (hts (.fieldLink RX0 9 "NameAuction$Name" "phase" "I") (by decide +kernel)) (fun _ h9 => h9) rfl (by decide +kernel) rfl rfl (Nat.le_of_ble_eq_true rfl) dX0_freeze_14 (fun H locs hP hD hS => ?_)
  have hP : va_P G vwCl (cN T x1 x2 x3 (upd (upd N 6 (N 0)) 0 5) (fun _ => 0) g) H := hP
  have hD : va_D (va_A (cN T x1 x2 x3 N f g) s.heap.size) (cN T x1 x2 x3 (upd (upd N 6 (N 0)) 0 5) (fun _ => 0) g) := hD
  refine lv_aload_n hx hb dX0_freeze_17 rfl (lv_at hl 0 rfl) ?_
  refine lv_iload_n hx hb dX0_freeze_18 rfl (lv_at hl 1 rfl) ?_
  refine va_put (D := G) (ci := 0) (v := .int p0) (ty := .int) (C := RX0) (T := TX0) (N := 11) hx hb hts hiRX0 tyX0 tyX0_ok nmX0 hown hK hP hD hS 0 rfl rfl 7 (by decide) (hts (.fieldLink RX0 46 "NameAuction$Name" "challenger" "I") (by decide +kernel)) (fun _ h9 => h9) rfl (by decide +kernel) rfl rfl (Nat.le_of_ble_eq_true rfl) dX0_freeze_19 (fun H locs hP hD hS => ?_)
  have hP : va_P G vwCl (cN T x1 x2 x3 (upd (upd (upd N 6 (N 0)) 0 5) 7 p0) (fun _ => 0) g) H := hP
  have hD : va_D (va_A (cN T x1 x2 x3 N f g) s.heap.size) (cN T x1 x2 x3 (upd (upd (upd N 6 (N 0)) 0 5) 7 p0) (fun _ => 0) g) := hD
  refine lv_aload_n hx hb dX0_freeze_22 rfl (lv_at hl 0 rfl) ?_
  refine lv_iload_n hx hb dX0_freeze_23 rfl (lv_at hl 2 rfl) ?_
  refine va_put (D := G) (ci := 0) (v := .int p1) (ty := .int) (C := RX0) (T := TX0) (N := 11) hx hb hts hiRX0 tyX0 tyX0_ok nmX0 hown hK hP hD hS 0 rfl rfl 8 (by decide) (hts (.fieldLink RX0 49 "NameAuction$Name" "frozenOn" "I") (by decide +kernel)) (fun _ h9 => h9) rfl (by decide +kernel) rfl rfl (Nat.le_of_ble_eq_true rfl) dX0_freeze_24 (fun H locs hP hD hS => ?_)
  have hP : va_P G vwCl (cN T x1 x2 x3 (upd (upd (upd (upd N 6 (N 0)) 0 5) 7 p0) 8 p1) (fun _ => 0) g) H := hP
  have hD : va_D (va_A (cN T x1 x2 x3 N f g) s.heap.size) (cN T x1 x2 x3 (upd (upd (upd (upd N 6 (N 0)) 0 5) 7 p0) 8 p1) (fun _ => 0) g) := hD
  exact W.vret hx hb hr (fun t ht9 hW => ⟨⟨(), rfl, trivial, gBi ht9 (gfin hP (rfl))⟩, hS.F ht9⟩) hS.2.2 dX0_freeze_27
abbrev PX0_thaw (G : va_G) (T : Nat → ClassId) (x1 x2 x3 : Nat) (N f g : Nat → Int32) (p0 p1 : Int32) (sz : Nat) : Array Value → State → Prop := gPc G T [.ref x1, .int p0, .int p1] (cN T x1 x2 x3 N f g) sz
abbrev QX0_thaw (G : va_G) (T : Nat → ClassId) (x1 x2 x3 : Nat) (N f g : Nat → Int32) (p0 p1 : Int32) (sz : Nat) : Array Value → State → Outcome → State → Prop := va_Qv (fun _ : Unit => True) (gB G (cN T x1 x2 x3 (sThaw N p0 p1) (sThawF N f) g)) (va_A (cN T x1 x2 x3 N f g) sz)
set_option maxHeartbeats 4000000 in
set_option maxRecDepth 100000 in
theorem kX0_thaw (l : Launch) (G : va_G) (T : Nat → ClassId) (x1 x2 x3 : Nat) (N f g : Nat → Int32) (p0 p1 : Int32) (sz : Nat)  : Met l yX0_thaw wsX0_thaw ({ frames := 3, cells := 0, slots := 0, locals := 65 } : Room) (PX0_thaw G T x1 x2 x3 N f g p0 p1 sz) (QX0_thaw G T x1 x2 x3 N f g p0 p1 sz) 0 0 (va_A (cN T x1 x2 x3 N f g) sz) := by
  refine Met.ofW (cc := cX0_thaw) (maxL := 3) (ret := none) (by decide) rfl ?_
  intro p e s m args below meth c s₁ B hml hv
  obtain ⟨rfl, hsz, hP, hK, hD0, hE⟩ := hv
  have hx := B.exec
  have hb := B.bytes
  have hr := B.returns
  have hts := atoms_spec (ws := wsX0_thaw) B.pre
  have hown : s.vm.findClass RX0 = some m.cls := findClass_of_methodNamed B.named
  have hlocks := B.notSynchronized
  subst hsz
  have hD := hD0.self (sz := s.heap.size)
  have hA : ∀ q : Nat, s.heap.size ≤ q → (va_A (cN T x1 x2 x3 N f g) s.heap.size) q := fun q h => Or.inr h
  have hS : va_S (va_A (cN T x1 x2 x3 N f g) s.heap.size) s.heap s.heap [] := va_S.rf
  have hiRX0 : ∀ w ∈ u_ws RX0 TX0 11, w ∈ wsX0_thaw := by decide +kernel
  have hl := lv_entry ([.ref x1, .int p0, .int p1]) (n := 3) (Nat.le_of_ble_eq_true rfl)
  rw [lg_entry_eq]
  generalize (lg_sl ([.ref x1, .int p0, .int p1]) ++ List.replicate (3 - (lg_sl ([.ref x1, .int p0, .int p1])).length) Slot.unset).toArray = ls at hl ⊢
  have hl : lv_has ls 3 [(0, .ref x1), (1, .int p0), (2, .int p1)] := hl
  have hP : va_P G vwCl (cN T x1 x2 x3 N f g) s.heap := hP
  refine lv_aload_n hx hb dX0_thaw_0 rfl (lv_at hl 0 rfl) ?_
  refine va_get (D := G) (ci := 0) (v := .int (N 6)) (C := RX0) (T := TX0) (N := 11) hx hb hts hiRX0 hown hK hP 0 rfl rfl 6 (by decide) (hts (.fieldLink RX0 43 "NameAuction$Name" "phaseBefore" "I") (by decide +kernel)) (fun _ h9 => h9) rfl dX0_thaw_1 ?_
  refine lv_iconst (v := 1) hx hb dX0_thaw_4 (by decide) ?_
  refine lv_icmp_eq (tgt := 53) hx hb dX0_thaw_5 (by decide) (fun c5 => ?_) (fun c5 => ?_)
  · skip
    refine lv_iload_n hx hb dX0_thaw_53 rfl (lv_at hl 1 rfl) ?_
    refine lv_if_eq (tgt := 69) hx hb dX0_thaw_54 (by decide) (fun c54 => ?_) (fun c54 => ?_)
    · skip
      refine lv_aload_n hx hb dX0_thaw_69 rfl (lv_at hl 0 rfl) ?_
      refine gcv (va_runV (As := []) (rest := []) ⟨hx, hb, hml, hown, hts⟩ (kX0_release l G T x1 x2 x3 N f g _) (cwV 0 hts gX0_thaw_X0_release rfl rfl rfl (by decide +kernel) ⟨Nat.le_of_ble_eq_true rfl, Nat.le_of_ble_eq_true rfl⟩) ⟨gblind, va_recv hK hP (ci := 0) (q0 := 0) rfl rfl, gpre hE hK hP hD hS hA [0, 1, 2] rfl rfl⟩ rfl rfl hl.1 rfl (lv_room (Nat.le_of_ble_eq_true rfl)) dX0_thaw_70 ⟨Nat.le_of_ble_eq_true rfl, Nat.le_of_ble_eq_true rfl⟩) hP hD hS hA [0, 1, 2] rfl rfl (fun H locs hw hP hD hS => ?_)
      have hP : va_P G vwCl (cN T x1 x2 x3 (upd (upd N 0 0) 1 (-1)) (fun _ => 0) g) H := hP
      have hD : va_D (va_A (cN T x1 x2 x3 N f g) s.heap.size) (cN T x1 x2 x3 (upd (upd N 0 0) 1 (-1)) (fun _ => 0) g) := hD
      exact W.vret hx hb hr (fun t ht9 hW => ⟨⟨(), rfl, trivial, gBi ht9 (gfin hP (by simp only [sThaw, sThawF]; simp [*]))⟩, hS.F ht9⟩) hS.2.2 dX0_thaw_73
    · skip
      refine lv_aload_n hx hb dX0_thaw_57 rfl (lv_at hl 0 rfl) ?_
      refine lv_aload_n hx hb dX0_thaw_58 rfl (lv_at hl 0 rfl) ?_
      refine va_get (D := G) (ci := 0) (v := .int (N 7)) (C := RX0) (T := TX0) (N := 11) hx hb hts hiRX0 hown hK hP 0 rfl rfl 7 (by decide) (hts (.fieldLink RX0 46 "NameAuction$Name" "challenger" "I") (by decide +kernel)) (fun _ h9 => h9) rfl dX0_thaw_59 ?_
      refine lv_iload_n hx hb dX0_thaw_62 rfl (lv_at hl 2 rfl) ?_
      refine gcv (va_runV (As := [.int (N 7), .int p1]) (rest := []) ⟨hx, hb, hml, hown, hts⟩ (kX0_leaseTo l G T x1 x2 x3 N f g (N 7) p1 _) (cwV 2 hts gX0_thaw_X0_leaseTo rfl rfl rfl (by decide +kernel) ⟨Nat.le_of_ble_eq_true rfl, Nat.le_of_ble_eq_true rfl⟩) ⟨gblind, va_recv hK hP (ci := 0) (q0 := 0) rfl rfl, gpre hE hK hP hD hS hA [0, 1, 2] rfl rfl⟩ rfl rfl hl.1 rfl (lv_room (Nat.le_of_ble_eq_true rfl)) dX0_thaw_63 ⟨Nat.le_of_ble_eq_true rfl, Nat.le_of_ble_eq_true rfl⟩) hP hD hS hA [0, 1, 2] rfl rfl (fun H locs hw hP hD hS => ?_)
      have hP : va_P G vwCl (cN T x1 x2 x3 (upd (upd (upd (upd (upd N 0 2) 1 (N 7)) 3 (p1 + 100)) 4 0) 5 10) (fun _ => 0) g) H := hP
      have hD : va_D (va_A (cN T x1 x2 x3 N f g) s.heap.size) (cN T x1 x2 x3 (upd (upd (upd (upd (upd N 0 2) 1 (N 7)) 3 (p1 + 100)) 4 0) 5 10) (fun _ => 0) g) := hD
      refine lv_goto (tgt := 73) hx hb dX0_thaw_66 (by decide) ?_
      exact W.vret hx hb hr (fun t ht9 hW => ⟨⟨(), rfl, trivial, gBi ht9 (gfin hP (by simp only [sThaw, sThawF]; simp [*]))⟩, hS.F ht9⟩) hS.2.2 dX0_thaw_73
  · skip
    refine lv_aload_n hx hb dX0_thaw_8 rfl (lv_at hl 0 rfl) ?_
    refine lv_aload_n hx hb dX0_thaw_9 rfl (lv_at hl 0 rfl) ?_
    refine va_get (D := G) (ci := 0) (v := .int (N 6)) (C := RX0) (T := TX0) (N := 11) hx hb hts hiRX0 hown hK hP 0 rfl rfl 6 (by decide) (hts (.fieldLink RX0 43 "NameAuction$Name" "phaseBefore" "I") (by decide +kernel)) (fun _ h9 => h9) rfl dX0_thaw_10 ?_
    refine va_put (D := G) (ci := 0) (v := .int (N 6)) (ty := .int) (C := RX0) (T := TX0) (N := 11) hx hb hts hiRX0 tyX0 tyX0_ok nmX0 hown hK hP hD hS 0 rfl rfl 0 (by decide) (hts (.fieldLink RX0 9 "NameAuction$Name" "phase" "I") (by decide +kernel)) (fun _ h9 => h9) rfl (by decide +kernel) rfl rfl (Nat.le_of_ble_eq_true rfl) dX0_thaw_13 (fun H locs hP hD hS => ?_)
    have hP : va_P G vwCl (cN T x1 x2 x3 (upd N 0 (N 6)) f g) H := hP
    have hD : va_D (va_A (cN T x1 x2 x3 N f g) s.heap.size) (cN T x1 x2 x3 (upd N 0 (N 6)) f g) := hD
    refine lv_aload_n hx hb dX0_thaw_16 rfl (lv_at hl 0 rfl) ?_
    refine lv_dup hx hb dX0_thaw_17 rfl ?_
    refine va_get (D := G) (ci := 0) (v := .int (N 3)) (C := RX0) (T := TX0) (N := 11) hx hb hts hiRX0 hown hK hP 0 rfl rfl 3 (by decide) (hts (.fieldLink RX0 31 "NameAuction$Name" "end" "I") (by decide +kernel)) (fun _ h9 => h9) rfl dX0_thaw_18 ?_
    refine lv_iload_n hx hb dX0_thaw_21 rfl (lv_at hl 2 rfl) ?_
    refine lv_aload_n hx hb dX0_thaw_22 rfl (lv_at hl 0 rfl) ?_
    refine va_get (D := G) (ci := 0) (v := .int (N 8)) (C := RX0) (T := TX0) (N := 11) hx hb hts hiRX0 hown hK hP 0 rfl rfl 8 (by decide) (hts (.fieldLink RX0 49 "NameAuction$Name" "frozenOn" "I") (by decide +kernel)) (fun _ h9 => h9) rfl dX0_thaw_23 ?_
    refine lv_isub hx hb dX0_thaw_26 ?_
    refine lv_iadd hx hb dX0_thaw_27 ?_
    refine va_put (D := G) (ci := 0) (v := .int ((N 3) + (p1 - (N 8)))) (ty := .int) (C := RX0) (T := TX0) (N := 11) hx hb hts hiRX0 tyX0 tyX0_ok nmX0 hown hK hP hD hS 0 rfl rfl 3 (by decide) (hts (.fieldLink RX0 31 "NameAuction$Name" "end" "I") (by decide +kernel)) (fun _ h9 => h9) rfl (by decide +kernel) rfl rfl (Nat.le_of_ble_eq_true rfl) dX0_thaw_28 (fun H locs hP hD hS => ?_)
    have hP : va_P G vwCl (cN T x1 x2 x3 (upd (upd N 0 (N 6)) 3 ((N 3) + (p1 - (N 8)))) f g) H := hP
    have hD : va_D (va_A (cN T x1 x2 x3 N f g) s.heap.size) (cN T x1 x2 x3 (upd (upd N 0 (N 6)) 3 ((N 3) + (p1 - (N 8)))) f g) := hD
    refine lv_aload_n hx hb dX0_thaw_31 rfl (lv_at hl 0 rfl) ?_
    refine lv_iload_n hx hb dX0_thaw_32 rfl (lv_at hl 1 rfl) ?_
    refine lv_if_eq (tgt := 43) hx hb dX0_thaw_33 (by decide) (fun c33 => ?_) (fun c33 => ?_)
    · skip
      refine lv_aload_n hx hb dX0_thaw_43 rfl (lv_at hl 0 rfl) ?_
      refine va_get (D := G) (ci := 0) (v := .int (N 1)) (C := RX0) (T := TX0) (N := 11) hx hb hts hiRX0 hown hK hP 0 rfl rfl 1 (by decide) (hts (.fieldLink RX0 15 "NameAuction$Name" "holder" "I") (by decide +kernel)) (fun _ h9 => h9) rfl dX0_thaw_44 ?_
      refine va_put (D := G) (ci := 0) (v := .int (N 1)) (ty := .int) (C := RX0) (T := TX0) (N := 11) hx hb hts hiRX0 tyX0 tyX0_ok nmX0 hown hK hP hD hS 0 rfl rfl 1 (by decide) (hts (.fieldLink RX0 15 "NameAuction$Name" "holder" "I") (by decide +kernel)) (fun _ h9 => h9) rfl (by decide +kernel) rfl rfl (Nat.le_of_ble_eq_true rfl) dX0_thaw_47 (fun H locs hP hD hS => ?_)
      have hP : va_P G vwCl (cN T x1 x2 x3 (upd (upd (upd N 0 (N 6)) 3 ((N 3) + (p1 - (N 8)))) 1 (N 1)) f g) H := hP
      have hD : va_D (va_A (cN T x1 x2 x3 N f g) s.heap.size) (cN T x1 x2 x3 (upd (upd (upd N 0 (N 6)) 3 ((N 3) + (p1 - (N 8)))) 1 (N 1)) f g) := hD
      refine lv_goto (tgt := 73) hx hb dX0_thaw_50 (by decide) ?_
      exact W.vret hx hb hr (fun t ht9 hW => ⟨⟨(), rfl, trivial, gBi ht9 (gfin hP (by simp only [sThaw, sThawF]; simp [*]))⟩, hS.F ht9⟩) hS.2.2 dX0_thaw_73
    · skip
      refine lv_aload_n hx hb dX0_thaw_36 rfl (lv_at hl 0 rfl) ?_
      refine va_get (D := G) (ci := 0) (v := .int (N 7)) (C := RX0) (T := TX0) (N := 11) hx hb hts hiRX0 hown hK hP 0 rfl rfl 7 (by decide) (hts (.fieldLink RX0 46 "NameAuction$Name" "challenger" "I") (by decide +kernel)) (fun _ h9 => h9) rfl dX0_thaw_37 ?_
      refine lv_goto (tgt := 47) hx hb dX0_thaw_40 (by decide) ?_
      refine va_put (D := G) (ci := 0) (v := .int (N 7)) (ty := .int) (C := RX0) (T := TX0) (N := 11) hx hb hts hiRX0 tyX0 tyX0_ok nmX0 hown hK hP hD hS 0 rfl rfl 1 (by decide) (hts (.fieldLink RX0 15 "NameAuction$Name" "holder" "I") (by decide +kernel)) (fun _ h9 => h9) rfl (by decide +kernel) rfl rfl (Nat.le_of_ble_eq_true rfl) dX0_thaw_47 (fun H locs hP hD hS => ?_)
      have hP : va_P G vwCl (cN T x1 x2 x3 (upd (upd (upd N 0 (N 6)) 3 ((N 3) + (p1 - (N 8)))) 1 (N 7)) f g) H := hP
      have hD : va_D (va_A (cN T x1 x2 x3 N f g) s.heap.size) (cN T x1 x2 x3 (upd (upd (upd N 0 (N 6)) 3 ((N 3) + (p1 - (N 8)))) 1 (N 7)) f g) := hD
      refine lv_goto (tgt := 73) hx hb dX0_thaw_50 (by decide) ?_
      exact W.vret hx hb hr (fun t ht9 hW => ⟨⟨(), rfl, trivial, gBi ht9 (gfin hP (by simp only [sThaw, sThawF]; simp [*]))⟩, hS.F ht9⟩) hS.2.2 dX0_thaw_73
abbrev PX0_isAhead (G : va_G) (T : Nat → ClassId) (x1 x2 x3 : Nat) (N f g : Nat → Int32) (i j : Nat) (sz : Nat) : Array Value → State → Prop := gPc G T [.ref x1, .int (nI i), .int (nI j)] (cN T x1 x2 x3 N f g) sz
abbrev QX0_isAhead (G : va_G) (T : Nat → ClassId) (x1 x2 x3 : Nat) (N f g : Nat → Int32) (i j : Nat) (sz : Nat) : Array Value → State → Outcome → State → Prop := va_Qi (fun (r : Int32) (_ : Unit) => r = sAhead f g i j) (gB G (cN T x1 x2 x3 N f g)) (va_A (cN T x1 x2 x3 N f g) sz)
set_option maxHeartbeats 4000000 in
set_option maxRecDepth 100000 in
theorem kX0_isAhead (l : Launch) (G : va_G) (T : Nat → ClassId) (x1 x2 x3 : Nat) (N f g : Nat → Int32) (i j : Nat) (sz : Nat) (hi : i < 6) (hj : j < 6) : Met l yX0_isAhead wsX0_isAhead ({ frames := 0, cells := 0, slots := 0, locals := 0 } : Room) (PX0_isAhead G T x1 x2 x3 N f g i j sz) (QX0_isAhead G T x1 x2 x3 N f g i j sz) 0 0 (va_A (cN T x1 x2 x3 N f g) sz) := by
  refine Met.ofW (cc := cX0_isAhead) (maxL := 3) (ret := (some .boolean)) (by decide) rfl ?_
  intro p e s m args below meth c s₁ B hml hv
  obtain ⟨rfl, hsz, hP, hK, hD0, hE⟩ := hv
  have hx := B.exec
  have hb := B.bytes
  have hr := B.returns
  have hts := atoms_spec (ws := wsX0_isAhead) B.pre
  have hown : s.vm.findClass RX0 = some m.cls := findClass_of_methodNamed B.named
  have hlocks := B.notSynchronized
  subst hsz
  have hD := hD0.self (sz := s.heap.size)
  have hA : ∀ q : Nat, s.heap.size ≤ q → (va_A (cN T x1 x2 x3 N f g) s.heap.size) q := fun q h => Or.inr h
  have hS : va_S (va_A (cN T x1 x2 x3 N f g) s.heap.size) s.heap s.heap [] := va_S.rf
  have hiRX0 : ∀ w ∈ u_ws RX0 TX0 11, w ∈ wsX0_isAhead := by decide +kernel
  have hl := lv_entry ([.ref x1, .int (nI i), .int (nI j)]) (n := 3) (Nat.le_of_ble_eq_true rfl)
  rw [lg_entry_eq]
  generalize (lg_sl ([.ref x1, .int (nI i), .int (nI j)]) ++ List.replicate (3 - (lg_sl ([.ref x1, .int (nI i), .int (nI j)])).length) Slot.unset).toArray = ls at hl ⊢
  have hl : lv_has ls 3 [(0, .ref x1), (1, .int (nI i)), (2, .int (nI j))] := hl
  have hP : va_P G vwCl (cN T x1 x2 x3 N f g) s.heap := hP
  refine lv_aload_n hx hb dX0_isAhead_0 rfl (lv_at hl 0 rfl) ?_
  refine va_get (D := G) (ci := 0) (v := .ref x2) (C := RX0) (T := TX0) (N := 11) hx hb hts hiRX0 hown hK hP 0 rfl rfl 9 (by decide) (hts (.fieldLink RX0 18 "NameAuction$Name" "amounts" "[I") (by decide +kernel)) (fun _ h9 => h9) rfl dX0_isAhead_1 ?_
  refine lv_iload_n hx hb dX0_isAhead_4 rfl (lv_at hl 1 rfl) ?_
  refine giald (j := i) hx hb hK hP 1 0 rfl rfl (show (nI i : Int32) = nI i from rfl) (by omega) (by decide) dX0_isAhead_5 ?_
  refine lv_aload_n hx hb dX0_isAhead_6 rfl (lv_at hl 0 rfl) ?_
  refine va_get (D := G) (ci := 0) (v := .ref x2) (C := RX0) (T := TX0) (N := 11) hx hb hts hiRX0 hown hK hP 0 rfl rfl 9 (by decide) (hts (.fieldLink RX0 18 "NameAuction$Name" "amounts" "[I") (by decide +kernel)) (fun _ h9 => h9) rfl dX0_isAhead_7 ?_
  refine lv_iload_n hx hb dX0_isAhead_10 rfl (lv_at hl 2 rfl) ?_
  refine giald (j := j) hx hb hK hP 1 0 rfl rfl (show (nI j : Int32) = nI j from rfl) (by omega) (by decide) dX0_isAhead_11 ?_
  refine lv_icmp_eq (tgt := 36) hx hb dX0_isAhead_12 (by decide) (fun c12 => ?_) (fun c12 => ?_)
  · skip
    refine lv_aload_n hx hb dX0_isAhead_36 rfl (lv_at hl 0 rfl) ?_
    refine va_get (D := G) (ci := 0) (v := .ref x3) (C := RX0) (T := TX0) (N := 11) hx hb hts hiRX0 hown hK hP 0 rfl rfl 10 (by decide) (hts (.fieldLink RX0 22 "NameAuction$Name" "turns" "[I") (by decide +kernel)) (fun _ h9 => h9) rfl dX0_isAhead_37 ?_
    refine lv_iload_n hx hb dX0_isAhead_40 rfl (lv_at hl 1 rfl) ?_
    refine giald (j := i) hx hb hK hP 2 0 rfl rfl (show (nI i : Int32) = nI i from rfl) (by omega) (by decide) dX0_isAhead_41 ?_
    refine lv_aload_n hx hb dX0_isAhead_42 rfl (lv_at hl 0 rfl) ?_
    refine va_get (D := G) (ci := 0) (v := .ref x3) (C := RX0) (T := TX0) (N := 11) hx hb hts hiRX0 hown hK hP 0 rfl rfl 10 (by decide) (hts (.fieldLink RX0 22 "NameAuction$Name" "turns" "[I") (by decide +kernel)) (fun _ h9 => h9) rfl dX0_isAhead_43 ?_
    refine lv_iload_n hx hb dX0_isAhead_46 rfl (lv_at hl 2 rfl) ?_
    refine giald (j := j) hx hb hK hP 2 0 rfl rfl (show (nI j : Int32) = nI j from rfl) (by omega) (by decide) dX0_isAhead_47 ?_
    refine lv_icmp_ge (tgt := 55) hx hb dX0_isAhead_48 (by decide) (fun c48 => ?_) (fun c48 => ?_)
    · skip
      refine lv_iconst (v := 0) hx hb dX0_isAhead_55 (by decide) ?_
      exact W.zret (v := 0) hx hb hr (by decide) (fun t ht9 hW => ⟨⟨0, (), rfl, by simp [sAhead, bI, *], gBi ht9 (gfin hP (rfl))⟩, hS.F ht9⟩) hS.2.2 dX0_isAhead_56
    · skip
      refine lv_iconst (v := 1) hx hb dX0_isAhead_51 (by decide) ?_
      refine lv_goto (tgt := 56) hx hb dX0_isAhead_52 (by decide) ?_
      exact W.zret (v := 1) hx hb hr (by decide) (fun t ht9 hW => ⟨⟨1, (), rfl, by simp [sAhead, bI, *], gBi ht9 (gfin hP (rfl))⟩, hS.F ht9⟩) hS.2.2 dX0_isAhead_56
  · skip
    refine lv_aload_n hx hb dX0_isAhead_15 rfl (lv_at hl 0 rfl) ?_
    refine va_get (D := G) (ci := 0) (v := .ref x2) (C := RX0) (T := TX0) (N := 11) hx hb hts hiRX0 hown hK hP 0 rfl rfl 9 (by decide) (hts (.fieldLink RX0 18 "NameAuction$Name" "amounts" "[I") (by decide +kernel)) (fun _ h9 => h9) rfl dX0_isAhead_16 ?_
    refine lv_iload_n hx hb dX0_isAhead_19 rfl (lv_at hl 1 rfl) ?_
    refine giald (j := i) hx hb hK hP 1 0 rfl rfl (show (nI i : Int32) = nI i from rfl) (by omega) (by decide) dX0_isAhead_20 ?_
    refine lv_aload_n hx hb dX0_isAhead_21 rfl (lv_at hl 0 rfl) ?_
    refine va_get (D := G) (ci := 0) (v := .ref x2) (C := RX0) (T := TX0) (N := 11) hx hb hts hiRX0 hown hK hP 0 rfl rfl 9 (by decide) (hts (.fieldLink RX0 18 "NameAuction$Name" "amounts" "[I") (by decide +kernel)) (fun _ h9 => h9) rfl dX0_isAhead_22 ?_
    refine lv_iload_n hx hb dX0_isAhead_25 rfl (lv_at hl 2 rfl) ?_
    refine giald (j := j) hx hb hK hP 1 0 rfl rfl (show (nI j : Int32) = nI j from rfl) (by omega) (by decide) dX0_isAhead_26 ?_
    refine lv_icmp_le (tgt := 34) hx hb dX0_isAhead_27 (by decide) (fun c27 => ?_) (fun c27 => ?_)
    · skip
      refine lv_iconst (v := 0) hx hb dX0_isAhead_34 (by decide) ?_
      exact W.zret (v := 0) hx hb hr (by decide) (fun t ht9 hW => ⟨⟨0, (), rfl, by simp [sAhead, bI, *], gBi ht9 (gfin hP (rfl))⟩, hS.F ht9⟩) hS.2.2 dX0_isAhead_35
    · skip
      refine lv_iconst (v := 1) hx hb dX0_isAhead_30 (by decide) ?_
      refine lv_goto (tgt := 35) hx hb dX0_isAhead_31 (by decide) ?_
      exact W.zret (v := 1) hx hb hr (by decide) (fun t ht9 hW => ⟨⟨1, (), rfl, by simp [sAhead, bI, *], gBi ht9 (gfin hP (rfl))⟩, hS.F ht9⟩) hS.2.2 dX0_isAhead_35
abbrev PX2_isHeld (G : va_G) (T : Nat → ClassId) (p0 : Int32) (sz : Nat) : Array Value → State → Prop := gPc G T [.int p0] ([] : va_W) sz
abbrev QX2_isHeld (G : va_G) (T : Nat → ClassId) (p0 : Int32) (sz : Nat) : Array Value → State → Outcome → State → Prop := va_Qi (fun (r : Int32) (_ : Unit) => r = sHeld p0) (gB G (([] : va_W))) (va_A ([] : va_W) sz)
set_option maxHeartbeats 4000000 in
set_option maxRecDepth 100000 in
theorem kX2_isHeld (l : Launch) (G : va_G) (T : Nat → ClassId) (p0 : Int32) (sz : Nat)  : Met l yX2_isHeld wsX2_isHeld ({ frames := 0, cells := 0, slots := 0, locals := 0 } : Room) (PX2_isHeld G T p0 sz) (QX2_isHeld G T p0 sz) 0 0 (va_A ([] : va_W) sz) := by
  refine Met.ofW (cc := cX2_isHeld) (maxL := 1) (ret := (some .boolean)) (by decide) rfl ?_
  intro p e s m args below meth c s₁ B hml hv
  obtain ⟨rfl, hsz, hP, hK, hD0, hE⟩ := hv
  have hx := B.exec
  have hb := B.bytes
  have hr := B.returns
  have hts := atoms_spec (ws := wsX2_isHeld) B.pre
  have hown : s.vm.findClass RX2 = some m.cls := findClass_of_methodNamed B.named
  have hlocks := B.notSynchronized
  subst hsz
  have hD := hD0.self (sz := s.heap.size)
  have hA : ∀ q : Nat, s.heap.size ≤ q → (va_A ([] : va_W) s.heap.size) q := fun q h => Or.inr h
  have hS : va_S (va_A ([] : va_W) s.heap.size) s.heap s.heap [] := va_S.rf
  have hl := lv_entry ([.int p0]) (n := 1) (Nat.le_of_ble_eq_true rfl)
  rw [lg_entry_eq]
  generalize (lg_sl ([.int p0]) ++ List.replicate (1 - (lg_sl ([.int p0])).length) Slot.unset).toArray = ls at hl ⊢
  have hl : lv_has ls 1 [(0, .int p0)] := hl
  have hP : va_P G vwCl (([] : va_W)) s.heap := hP
  refine lv_iload_n hx hb dX2_isHeld_0 rfl (lv_at hl 0 rfl) ?_
  refine lv_iconst (v := 2) hx hb dX2_isHeld_1 (by decide) ?_
  refine lv_icmp_eq (tgt := 10) hx hb dX2_isHeld_2 (by decide) (fun c2 => ?_) (fun c2 => ?_)
  · skip
    refine lv_iconst (v := 1) hx hb dX2_isHeld_10 (by decide) ?_
    refine lv_goto (tgt := 15) hx hb dX2_isHeld_11 (by decide) ?_
    exact W.zret (v := 1) hx hb hr (by decide) (fun t ht9 hW => ⟨⟨1, (), rfl, by simp [sHeld, bI, *], gBi ht9 (gfin hP (rfl))⟩, hS.F ht9⟩) hS.2.2 dX2_isHeld_15
  · skip
    refine lv_iload_n hx hb dX2_isHeld_5 rfl (lv_at hl 0 rfl) ?_
    refine lv_iconst (v := 3) hx hb dX2_isHeld_6 (by decide) ?_
    refine lv_icmp_ne (tgt := 14) hx hb dX2_isHeld_7 (by decide) (fun c7 => ?_) (fun c7 => ?_)
    · skip
      refine lv_iconst (v := 0) hx hb dX2_isHeld_14 (by decide) ?_
      exact W.zret (v := 0) hx hb hr (by decide) (fun t ht9 hW => ⟨⟨0, (), rfl, by simp [sHeld, bI, *], gBi ht9 (gfin hP (rfl))⟩, hS.F ht9⟩) hS.2.2 dX2_isHeld_15
    · skip
      refine lv_iconst (v := 1) hx hb dX2_isHeld_10 (by decide) ?_
      refine lv_goto (tgt := 15) hx hb dX2_isHeld_11 (by decide) ?_
      exact W.zret (v := 1) hx hb hr (by decide) (fun t ht9 hW => ⟨⟨1, (), rfl, by simp [sHeld, bI, *], gBi ht9 (gfin hP (rfl))⟩, hS.F ht9⟩) hS.2.2 dX2_isHeld_15
abbrev PX0_hasRecord (G : va_G) (T : Nat → ClassId) (x1 x2 x3 : Nat) (N f g : Nat → Int32) (sz : Nat) : Array Value → State → Prop := gPc G T [.ref x1] (cN T x1 x2 x3 N f g) sz
abbrev QX0_hasRecord (G : va_G) (T : Nat → ClassId) (x1 x2 x3 : Nat) (N f g : Nat → Int32) (sz : Nat) : Array Value → State → Outcome → State → Prop := va_Qi (fun (r : Int32) (_ : Unit) => r = sRec N) (gB G (cN T x1 x2 x3 N f g)) (va_A (cN T x1 x2 x3 N f g) sz)
set_option maxHeartbeats 4000000 in
set_option maxRecDepth 100000 in
theorem kX0_hasRecord (l : Launch) (G : va_G) (T : Nat → ClassId) (x1 x2 x3 : Nat) (N f g : Nat → Int32) (sz : Nat)  : Met l yX0_hasRecord wsX0_hasRecord ({ frames := 1, cells := 0, slots := 0, locals := 20 } : Room) (PX0_hasRecord G T x1 x2 x3 N f g sz) (QX0_hasRecord G T x1 x2 x3 N f g sz) 0 0 (va_A (cN T x1 x2 x3 N f g) sz) := by
  refine Met.ofW (cc := cX0_hasRecord) (maxL := 1) (ret := (some .boolean)) (by decide) rfl ?_
  intro p e s m args below meth c s₁ B hml hv
  obtain ⟨rfl, hsz, hP, hK, hD0, hE⟩ := hv
  have hx := B.exec
  have hb := B.bytes
  have hr := B.returns
  have hts := atoms_spec (ws := wsX0_hasRecord) B.pre
  have hown : s.vm.findClass RX0 = some m.cls := findClass_of_methodNamed B.named
  have hlocks := B.notSynchronized
  subst hsz
  have hD := hD0.self (sz := s.heap.size)
  have hA : ∀ q : Nat, s.heap.size ≤ q → (va_A (cN T x1 x2 x3 N f g) s.heap.size) q := fun q h => Or.inr h
  have hS : va_S (va_A (cN T x1 x2 x3 N f g) s.heap.size) s.heap s.heap [] := va_S.rf
  have hiRX0 : ∀ w ∈ u_ws RX0 TX0 11, w ∈ wsX0_hasRecord := by decide +kernel
  have hl := lv_entry ([.ref x1]) (n := 1) (Nat.le_of_ble_eq_true rfl)
  rw [lg_entry_eq]
  generalize (lg_sl ([.ref x1]) ++ List.replicate (1 - (lg_sl ([.ref x1])).length) Slot.unset).toArray = ls at hl ⊢
  have hl : lv_has ls 1 [(0, .ref x1)] := hl
  have hP : va_P G vwCl (cN T x1 x2 x3 N f g) s.heap := hP
  refine lv_aload_n hx hb dX0_hasRecord_0 rfl (lv_at hl 0 rfl) ?_
  refine va_get (D := G) (ci := 0) (v := .int (N 0)) (C := RX0) (T := TX0) (N := 11) hx hb hts hiRX0 hown hK hP 0 rfl rfl 0 (by decide) (hts (.fieldLink RX0 9 "NameAuction$Name" "phase" "I") (by decide +kernel)) (fun _ h9 => h9) rfl dX0_hasRecord_1 ?_
  refine lv_iconst (v := 5) hx hb dX0_hasRecord_4 (by decide) ?_
  refine lv_icmp_ne (tgt := 15) hx hb dX0_hasRecord_5 (by decide) (fun c5 => ?_) (fun c5 => ?_)
  · skip
    refine lv_aload_n hx hb dX0_hasRecord_15 rfl (lv_at hl 0 rfl) ?_
    refine va_get (D := G) (ci := 0) (v := .int (N 0)) (C := RX0) (T := TX0) (N := 11) hx hb hts hiRX0 hown hK hP 0 rfl rfl 0 (by decide) (hts (.fieldLink RX0 9 "NameAuction$Name" "phase" "I") (by decide +kernel)) (fun _ h9 => h9) rfl dX0_hasRecord_16 ?_
    refine gci (va_runSN (As := [.int (N 0)]) (rest := []) ⟨hx, hb, hml, hown, hts⟩ (kX2_isHeld l G T (N 0) _) ⟨(va_cnB 1 hts ggX0_hasRecord_X2_isHeld rfl rfl rfl (hE.1 (.methodLinkNest RX0 62 yX2_isHeld RX2) (by decide +kernel)) (hts (.initialized RX2) (by decide +kernel)) (by decide +kernel) ⟨Nat.le_of_ble_eq_true rfl, Nat.le_of_ble_eq_true rfl⟩), hts (.static yX2_isHeld) (by decide +kernel), trivial⟩ ⟨gblind, gpre hE hK hP hD hS hA [] rfl rfl⟩ rfl rfl hl.1 rfl (lv_room (Nat.le_of_ble_eq_true rfl)) dX0_hasRecord_19 ⟨Nat.le_of_ble_eq_true rfl, Nat.le_of_ble_eq_true rfl⟩) hP hD hS hA [] rfl rfl (fun r9 H locs hw hP hD hS => ?_)
    have hP : va_P G vwCl (cN T x1 x2 x3 N f g) H := hP
    have hD : va_D (va_A (cN T x1 x2 x3 N f g) s.heap.size) (cN T x1 x2 x3 N f g) := hD
    subst hw
    exact W.zret (v := sHeld (N 0)) hx hb hr (bI_ok _) (fun t ht9 hW => ⟨⟨sHeld (N 0), (), rfl, by simp [sRec, *], gBi ht9 (gfin hP (rfl))⟩, hS.F ht9⟩) hS.2.2 dX0_hasRecord_22
  · skip
    refine lv_aload_n hx hb dX0_hasRecord_8 rfl (lv_at hl 0 rfl) ?_
    refine va_get (D := G) (ci := 0) (v := .int (N 6)) (C := RX0) (T := TX0) (N := 11) hx hb hts hiRX0 hown hK hP 0 rfl rfl 6 (by decide) (hts (.fieldLink RX0 43 "NameAuction$Name" "phaseBefore" "I") (by decide +kernel)) (fun _ h9 => h9) rfl dX0_hasRecord_9 ?_
    refine lv_goto (tgt := 19) hx hb dX0_hasRecord_12 (by decide) ?_
    refine gci (va_runSN (As := [.int (N 6)]) (rest := []) ⟨hx, hb, hml, hown, hts⟩ (kX2_isHeld l G T (N 6) _) ⟨(va_cnB 1 hts ggX0_hasRecord_X2_isHeld rfl rfl rfl (hE.1 (.methodLinkNest RX0 62 yX2_isHeld RX2) (by decide +kernel)) (hts (.initialized RX2) (by decide +kernel)) (by decide +kernel) ⟨Nat.le_of_ble_eq_true rfl, Nat.le_of_ble_eq_true rfl⟩), hts (.static yX2_isHeld) (by decide +kernel), trivial⟩ ⟨gblind, gpre hE hK hP hD hS hA [] rfl rfl⟩ rfl rfl hl.1 rfl (lv_room (Nat.le_of_ble_eq_true rfl)) dX0_hasRecord_19 ⟨Nat.le_of_ble_eq_true rfl, Nat.le_of_ble_eq_true rfl⟩) hP hD hS hA [] rfl rfl (fun r9 H locs hw hP hD hS => ?_)
    have hP : va_P G vwCl (cN T x1 x2 x3 N f g) H := hP
    have hD : va_D (va_A (cN T x1 x2 x3 N f g) s.heap.size) (cN T x1 x2 x3 N f g) := hD
    subst hw
    exact W.zret (v := sHeld (N 6)) hx hb hr (bI_ok _) (fun t ht9 hW => ⟨⟨sHeld (N 6), (), rfl, by simp [sRec, *], gBi ht9 (gfin hP (rfl))⟩, hS.F ht9⟩) hS.2.2 dX0_hasRecord_22
abbrev PX0_answer (G : va_G) (T : Nat → ClassId) (x1 x2 x3 : Nat) (N f g : Nat → Int32) (sz : Nat) : Array Value → State → Prop := gPc G T [.ref x1] (cN T x1 x2 x3 N f g) sz
abbrev QX0_answer (G : va_G) (T : Nat → ClassId) (x1 x2 x3 : Nat) (N f g : Nat → Int32) (sz : Nat) : Array Value → State → Outcome → State → Prop := va_Qi (fun (r : Int32) (_ : Unit) => r = sAns N) (gB G (cN T x1 x2 x3 N f g)) (va_A (cN T x1 x2 x3 N f g) sz)
set_option maxHeartbeats 4000000 in
set_option maxRecDepth 100000 in
theorem kX0_answer (l : Launch) (G : va_G) (T : Nat → ClassId) (x1 x2 x3 : Nat) (N f g : Nat → Int32) (sz : Nat)  : Met l yX0_answer wsX0_answer ({ frames := 2, cells := 0, slots := 0, locals := 40 } : Room) (PX0_answer G T x1 x2 x3 N f g sz) (QX0_answer G T x1 x2 x3 N f g sz) 0 0 (va_A (cN T x1 x2 x3 N f g) sz) := by
  refine Met.ofW (cc := cX0_answer) (maxL := 1) (ret := (some .int)) (by decide) rfl ?_
  intro p e s m args below meth c s₁ B hml hv
  obtain ⟨rfl, hsz, hP, hK, hD0, hE⟩ := hv
  have hx := B.exec
  have hb := B.bytes
  have hr := B.returns
  have hts := atoms_spec (ws := wsX0_answer) B.pre
  have hown : s.vm.findClass RX0 = some m.cls := findClass_of_methodNamed B.named
  have hlocks := B.notSynchronized
  subst hsz
  have hD := hD0.self (sz := s.heap.size)
  have hA : ∀ q : Nat, s.heap.size ≤ q → (va_A (cN T x1 x2 x3 N f g) s.heap.size) q := fun q h => Or.inr h
  have hS : va_S (va_A (cN T x1 x2 x3 N f g) s.heap.size) s.heap s.heap [] := va_S.rf
  have hiRX0 : ∀ w ∈ u_ws RX0 TX0 11, w ∈ wsX0_answer := by decide +kernel
  have hl := lv_entry ([.ref x1]) (n := 1) (Nat.le_of_ble_eq_true rfl)
  rw [lg_entry_eq]
  generalize (lg_sl ([.ref x1]) ++ List.replicate (1 - (lg_sl ([.ref x1])).length) Slot.unset).toArray = ls at hl ⊢
  have hl : lv_has ls 1 [(0, .ref x1)] := hl
  have hP : va_P G vwCl (cN T x1 x2 x3 N f g) s.heap := hP
  refine lv_aload_n hx hb dX0_answer_0 rfl (lv_at hl 0 rfl) ?_
  refine gci (va_runV (As := []) (rest := []) ⟨hx, hb, hml, hown, hts⟩ (kX0_hasRecord l G T x1 x2 x3 N f g _) (cwV 0 hts gX0_answer_X0_hasRecord rfl rfl rfl (by decide +kernel) ⟨Nat.le_of_ble_eq_true rfl, Nat.le_of_ble_eq_true rfl⟩) ⟨gblind, va_recv hK hP (ci := 0) (q0 := 0) rfl rfl, gpre hE hK hP hD hS hA [0, 1, 2] rfl rfl⟩ rfl rfl hl.1 rfl (lv_room (Nat.le_of_ble_eq_true rfl)) dX0_answer_1 ⟨Nat.le_of_ble_eq_true rfl, Nat.le_of_ble_eq_true rfl⟩) hP hD hS hA [0, 1, 2] rfl rfl (fun r9 H locs hw hP hD hS => ?_)
  have hP : va_P G vwCl (cN T x1 x2 x3 N f g) H := hP
  have hD : va_D (va_A (cN T x1 x2 x3 N f g) s.heap.size) (cN T x1 x2 x3 N f g) := hD
  subst hw
  refine lv_if_eq (tgt := 14) hx hb dX0_answer_4 (by decide) (fun c4 => ?_) (fun c4 => ?_)
  · skip
    refine lv_iconst (v := (-1)) hx hb dX0_answer_14 (by decide) ?_
    exact W.iret (v := (-1)) hx hb hr (fun t ht9 hW => ⟨⟨(-1), (), rfl, by simp [sAns, *], gBi ht9 (gfin hP (rfl))⟩, hS.F ht9⟩) hS.2.2 dX0_answer_15
  · skip
    refine lv_aload_n hx hb dX0_answer_7 rfl (lv_at hl 0 rfl) ?_
    refine va_get (D := G) (ci := 0) (v := .int (N 4)) (C := RX0) (T := TX0) (N := 11) hx hb hts hiRX0 hown hK hP 0 rfl rfl 4 (by decide) (hts (.fieldLink RX0 34 "NameAuction$Name" "record" "I") (by decide +kernel)) (fun _ h9 => h9) rfl dX0_answer_8 ?_
    refine lv_goto (tgt := 15) hx hb dX0_answer_11 (by decide) ?_
    exact W.iret (v := N 4) hx hb hr (fun t ht9 hW => ⟨⟨N 4, (), rfl, by simp [sAns, *], gBi ht9 (gfin hP (rfl))⟩, hS.F ht9⟩) hS.2.2 dX0_answer_15
abbrev PX0_answerLifetime (G : va_G) (T : Nat → ClassId) (x1 x2 x3 : Nat) (N f g : Nat → Int32) (sz : Nat) : Array Value → State → Prop := gPc G T [.ref x1] (cN T x1 x2 x3 N f g) sz
abbrev QX0_answerLifetime (G : va_G) (T : Nat → ClassId) (x1 x2 x3 : Nat) (N f g : Nat → Int32) (sz : Nat) : Array Value → State → Outcome → State → Prop := va_Qi (fun (r : Int32) (_ : Unit) => r = sLife N) (gB G (cN T x1 x2 x3 N f g)) (va_A (cN T x1 x2 x3 N f g) sz)
set_option maxHeartbeats 4000000 in
set_option maxRecDepth 100000 in
theorem kX0_answerLifetime (l : Launch) (G : va_G) (T : Nat → ClassId) (x1 x2 x3 : Nat) (N f g : Nat → Int32) (sz : Nat)  : Met l yX0_answerLifetime wsX0_answerLifetime ({ frames := 2, cells := 0, slots := 0, locals := 40 } : Room) (PX0_answerLifetime G T x1 x2 x3 N f g sz) (QX0_answerLifetime G T x1 x2 x3 N f g sz) 0 0 (va_A (cN T x1 x2 x3 N f g) sz) := by
  refine Met.ofW (cc := cX0_answerLifetime) (maxL := 1) (ret := (some .int)) (by decide) rfl ?_
  intro p e s m args below meth c s₁ B hml hv
  obtain ⟨rfl, hsz, hP, hK, hD0, hE⟩ := hv
  have hx := B.exec
  have hb := B.bytes
  have hr := B.returns
  have hts := atoms_spec (ws := wsX0_answerLifetime) B.pre
  have hown : s.vm.findClass RX0 = some m.cls := findClass_of_methodNamed B.named
  have hlocks := B.notSynchronized
  subst hsz
  have hD := hD0.self (sz := s.heap.size)
  have hA : ∀ q : Nat, s.heap.size ≤ q → (va_A (cN T x1 x2 x3 N f g) s.heap.size) q := fun q h => Or.inr h
  have hS : va_S (va_A (cN T x1 x2 x3 N f g) s.heap.size) s.heap s.heap [] := va_S.rf
  have hiRX0 : ∀ w ∈ u_ws RX0 TX0 11, w ∈ wsX0_answerLifetime := by decide +kernel
  have hl := lv_entry ([.ref x1]) (n := 1) (Nat.le_of_ble_eq_true rfl)
  rw [lg_entry_eq]
  generalize (lg_sl ([.ref x1]) ++ List.replicate (1 - (lg_sl ([.ref x1])).length) Slot.unset).toArray = ls at hl ⊢
  have hl : lv_has ls 1 [(0, .ref x1)] := hl
  have hP : va_P G vwCl (cN T x1 x2 x3 N f g) s.heap := hP
  refine lv_aload_n hx hb dX0_answerLifetime_0 rfl (lv_at hl 0 rfl) ?_
  refine gci (va_runV (As := []) (rest := []) ⟨hx, hb, hml, hown, hts⟩ (kX0_hasRecord l G T x1 x2 x3 N f g _) (cwV 0 hts gX0_answerLifetime_X0_hasRecord rfl rfl rfl (by decide +kernel) ⟨Nat.le_of_ble_eq_true rfl, Nat.le_of_ble_eq_true rfl⟩) ⟨gblind, va_recv hK hP (ci := 0) (q0 := 0) rfl rfl, gpre hE hK hP hD hS hA [0, 1, 2] rfl rfl⟩ rfl rfl hl.1 rfl (lv_room (Nat.le_of_ble_eq_true rfl)) dX0_answerLifetime_1 ⟨Nat.le_of_ble_eq_true rfl, Nat.le_of_ble_eq_true rfl⟩) hP hD hS hA [0, 1, 2] rfl rfl (fun r9 H locs hw hP hD hS => ?_)
  have hP : va_P G vwCl (cN T x1 x2 x3 N f g) H := hP
  have hD : va_D (va_A (cN T x1 x2 x3 N f g) s.heap.size) (cN T x1 x2 x3 N f g) := hD
  subst hw
  refine lv_if_eq (tgt := 14) hx hb dX0_answerLifetime_4 (by decide) (fun c4 => ?_) (fun c4 => ?_)
  · skip
    refine lv_iconst (v := 5) hx hb dX0_answerLifetime_14 (by decide) ?_
    exact W.iret (v := 5) hx hb hr (fun t ht9 hW => ⟨⟨5, (), rfl, by simp [sLife, *], gBi ht9 (gfin hP (rfl))⟩, hS.F ht9⟩) hS.2.2 dX0_answerLifetime_15
  · skip
    refine lv_aload_n hx hb dX0_answerLifetime_7 rfl (lv_at hl 0 rfl) ?_
    refine va_get (D := G) (ci := 0) (v := .int (N 5)) (C := RX0) (T := TX0) (N := 11) hx hb hts hiRX0 hown hK hP 0 rfl rfl 5 (by decide) (hts (.fieldLink RX0 37 "NameAuction$Name" "lifetime" "I") (by decide +kernel)) (fun _ h9 => h9) rfl dX0_answerLifetime_8 ?_
    refine lv_goto (tgt := 15) hx hb dX0_answerLifetime_11 (by decide) ?_
    exact W.iret (v := N 5) hx hb hr (fun t ht9 hW => ⟨⟨N 5, (), rfl, by simp [sLife, *], gBi ht9 (gfin hP (rfl))⟩, hS.F ht9⟩) hS.2.2 dX0_answerLifetime_15
abbrev PX0_countBids (G : va_G) (T : Nat → ClassId) (x1 x2 x3 : Nat) (N f g : Nat → Int32) (sz : Nat) : Array Value → State → Prop := gPc G T [.ref x1] (cN T x1 x2 x3 N f g) sz
abbrev QX0_countBids (G : va_G) (T : Nat → ClassId) (x1 x2 x3 : Nat) (N f g : Nat → Int32) (sz : Nat) : Array Value → State → Outcome → State → Prop := va_Qi (fun (r : Int32) (_ : Unit) => r = sCnt f 6) (gB G (cN T x1 x2 x3 N f g)) (va_A (cN T x1 x2 x3 N f g) sz)
set_option maxHeartbeats 4000000 in
set_option maxRecDepth 100000 in
theorem kX0_countBids (l : Launch) (G : va_G) (T : Nat → ClassId) (x1 x2 x3 : Nat) (N f g : Nat → Int32) (sz : Nat)  : Met l yX0_countBids wsX0_countBids ({ frames := 0, cells := 0, slots := 0, locals := 0 } : Room) (PX0_countBids G T x1 x2 x3 N f g sz) (QX0_countBids G T x1 x2 x3 N f g sz) 0 0 (va_A (cN T x1 x2 x3 N f g) sz) := by
  refine Met.ofW (cc := cX0_countBids) (maxL := 3) (ret := (some .int)) (by decide) rfl ?_
  intro p e s m args below meth c s₁ B hml hv
  obtain ⟨rfl, hsz, hP, hK, hD0, hE⟩ := hv
  have hx := B.exec
  have hb := B.bytes
  have hr := B.returns
  have hts := atoms_spec (ws := wsX0_countBids) B.pre
  have hown : s.vm.findClass RX0 = some m.cls := findClass_of_methodNamed B.named
  have hlocks := B.notSynchronized
  subst hsz
  have hD := hD0.self (sz := s.heap.size)
  have hA : ∀ q : Nat, s.heap.size ≤ q → (va_A (cN T x1 x2 x3 N f g) s.heap.size) q := fun q h => Or.inr h
  have hS : va_S (va_A (cN T x1 x2 x3 N f g) s.heap.size) s.heap s.heap [] := va_S.rf
  have hiRX0 : ∀ w ∈ u_ws RX0 TX0 11, w ∈ wsX0_countBids := by decide +kernel
  have hl := lv_entry ([.ref x1]) (n := 3) (Nat.le_of_ble_eq_true rfl)
  rw [lg_entry_eq]
  generalize (lg_sl ([.ref x1]) ++ List.replicate (3 - (lg_sl ([.ref x1])).length) Slot.unset).toArray = ls at hl ⊢
  have hl : lv_has ls 3 [(0, .ref x1)] := hl
  have hP : va_P G vwCl (cN T x1 x2 x3 N f g) s.heap := hP
  refine lv_iconst (v := 0) hx hb dX0_countBids_0 (by decide) ?_
  refine lv_istore_n (lv' := [(1, .int 0), (0, .ref x1)]) hx hb dX0_countBids_1 rfl hl (by decide) rfl (fun ls hl => ?_)
  refine lv_iconst (v := 0) hx hb dX0_countBids_2 (by decide) ?_
  refine lv_istore_n (lv' := [(2, .int 0), (1, .int 0), (0, .ref x1)]) hx hb dX0_countBids_3 rfl hl (by decide) rfl (fun ls hl => ?_)
  have J4 : ∀ n9 : Nat, ∀ (i : Nat) (H : Heap) (locs : List Loc) (ls : Array Slot), (i ≤ 6) → (7 ≤ i + n9) → va_P G vwCl (cN T x1 x2 x3 N f g) H → va_D (va_A (cN T x1 x2 x3 N f g) s.heap.size) (cN T x1 x2 x3 N f g) → va_S (va_A (cN T x1 x2 x3 N f g) s.heap.size) s.heap H locs → lv_has ls 3 [(0, .ref x1), (1, .int (sCnt f i)), (2, .int (nI i))] → W p l e (headSpec wsX0_countBids ({ frames := 0, cells := 0, slots := 0, locals := 0 } : Room)).room s m ([.ref x1] : List Value).toArray below meth c H locs 0 0 (MQ below (QX0_countBids G T x1 x2 x3 N f g s.heap.size) ([.ref x1] : List Value).toArray s 0 0 (va_A (cN T x1 x2 x3 N f g) s.heap.size)) (F0 m 4 ls []) := by
    intro n9
    induction n9 with
    | zero => intro i H locs ls hi hm hP hD hS hl; exact absurd (hm) (by omega)
    | succ n9 ih4 =>
      intro i H locs ls hi hm hP hD hS hl
      refine lv_iload_n hx hb dX0_countBids_4 rfl (lv_at hl 2 rfl) ?_
      refine lv_bipush (v := 6) hx hb dX0_countBids_5 (by decide) ?_
      refine lv_icmp_ge (tgt := 33) hx hb dX0_countBids_7 (by decide) (fun c7 => ?_) (fun c7 => ?_)
      · skip
        have hge : i = 6 := by
          rcases Nat.lt_or_ge i 6 with q | q
          · exact absurd c7 (nI_ge (b := 6) q (by omega))
          · omega
        refine lv_iload_n hx hb dX0_countBids_33 rfl (lv_at hl 1 rfl) ?_
        exact W.iret (v := sCnt f i) hx hb hr (fun t ht9 hW => ⟨⟨sCnt f i, (), rfl, by rw [hge], gBi ht9 (gfin hP (rfl))⟩, hS.F ht9⟩) hS.2.2 dX0_countBids_34
      · skip
        have hlt : i < 6 := by
          rcases Nat.lt_or_ge i 6 with q | q
          · exact q
          · exact absurd (show (6 : Int32) ≤ nI i from nI_le (a := 6) q (by omega)) c7
        refine lv_iload_n hx hb dX0_countBids_10 rfl (lv_at hl 1 rfl) ?_
        refine lv_aload_n hx hb dX0_countBids_11 rfl (lv_at hl 0 rfl) ?_
        refine va_get (D := G) (ci := 0) (v := .ref x2) (C := RX0) (T := TX0) (N := 11) hx hb hts hiRX0 hown hK hP 0 rfl rfl 9 (by decide) (hts (.fieldLink RX0 18 "NameAuction$Name" "amounts" "[I") (by decide +kernel)) (fun _ h9 => h9) rfl dX0_countBids_12 ?_
        refine lv_iload_n hx hb dX0_countBids_15 rfl (lv_at hl 2 rfl) ?_
        refine giald (j := i) hx hb hK hP 1 0 rfl rfl (show (nI i : Int32) = nI i from rfl) (by omega) (by decide) dX0_countBids_16 ?_
        refine lv_if_le (tgt := 24) hx hb dX0_countBids_17 (by decide) (fun c17 => ?_) (fun c17 => ?_)
        · skip
          refine lv_iconst (v := 0) hx hb dX0_countBids_24 (by decide) ?_
          refine lv_iadd hx hb dX0_countBids_25 ?_
          refine gtop (y := sCnt f (i + 1)) (by simp [sCnt, *]) ?_
          refine lv_istore_n (lv' := [(1, .int (sCnt f (i + 1))), (0, .ref x1), (2, .int (nI i))]) hx hb dX0_countBids_26 rfl hl (by decide) rfl (fun ls hl => ?_)
          refine lv_iinc (v := nI (i + 1)) (lv' := [(2, .int (nI (i + 1))), (1, .int (sCnt f (i + 1))), (0, .ref x1)]) hx hb dX0_countBids_27 hl (k := 2) rfl (by first | rfl | exact (nI_add i 1)) (by decide) rfl (fun ls hl => ?_)
          refine lv_goto (tgt := 4) hx hb dX0_countBids_30 (by decide) ?_
          have hl := hl
          exact ih4 (i + 1) _ _ _ (by omega) (by omega) hP hD hS (lv_sub hl [2, 1, 0] rfl)
        · skip
          refine lv_iconst (v := 1) hx hb dX0_countBids_20 (by decide) ?_
          refine lv_goto (tgt := 25) hx hb dX0_countBids_21 (by decide) ?_
          refine lv_iadd hx hb dX0_countBids_25 ?_
          refine gtop (y := sCnt f (i + 1)) (by simp [sCnt, *]) ?_
          refine lv_istore_n (lv' := [(1, .int (sCnt f (i + 1))), (0, .ref x1), (2, .int (nI i))]) hx hb dX0_countBids_26 rfl hl (by decide) rfl (fun ls hl => ?_)
          refine lv_iinc (v := nI (i + 1)) (lv' := [(2, .int (nI (i + 1))), (1, .int (sCnt f (i + 1))), (0, .ref x1)]) hx hb dX0_countBids_27 hl (k := 2) rfl (by first | rfl | exact (nI_add i 1)) (by decide) rfl (fun ls hl => ?_)
          refine lv_goto (tgt := 4) hx hb dX0_countBids_30 (by decide) ?_
          have hl := hl
          exact ih4 (i + 1) _ _ _ (by omega) (by omega) hP hD hS (lv_sub hl [2, 1, 0] rfl)
  have hl := hl
  exact J4 7 0 _ _ _ (by omega) (by omega) hP hD hS (lv_sub hl [2, 1, 0] rfl)
