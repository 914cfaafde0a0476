/-! WORLDS of a name, a resolver, the class, the reference; rows over them -/
/-- a name: its object at a, its amounts at b, its turns at c; N its ints by their place -/
abbrev cN (T : Nat → ClassId) (a b c : Nat) (N f g : Nat → Int32) : va_W := [(a, .inr (0, [.int (N 0), .int (N 1), .int (N 2), .int (N 3), .int (N 4), .int (N 5), .int (N 6), .int (N 7), .int (N 8), .ref b, .ref c])), (b, .inl (T 0, 6, .inl f)), (c, .inl (T 0, 6, .inl g))]
/-- a resolver: its object at a; kept, answers, lifetimes, takenOn -/
abbrev cR (T : Nat → ClassId) (a b c d e : Nat) (k f g h : Nat → Int32) : va_W := [(a, .inr (1, [.ref b, .ref c, .ref d, .ref e])), (b, .inl (T 1, 16, .inl k)), (c, .inl (T 0, 16, .inl f)), (d, .inl (T 0, 16, .inl g)), (e, .inl (T 0, 16, .inl h))]
/-- the class: its object, the money, the rows of names and resolvers; D 3, D 4, D 5: day, paid, bidsMade -/
abbrev cA (T : Nat → ClassId) (na mo nm rs : Nat) (D f : Nat → Int32) (nA rA : Nat → Nat) : va_W := [(na, .inr (2, [.ref mo, .ref nm, .ref rs, .int (D 3), .int (D 4), .int (D 5)])), (mo, .inl (T 0, 6, .inl f)), (nm, .inl (T 2, 16, .inr (.inr (.inr (.inr (fun j => some (nA j))))))), (rs, .inl (T 3, 3, .inr (.inr (.inr (.inr (fun j => some (rA j)))))))]
/-- a row of a family anew -/
def updA (F : Nat → Nat → Int32) (k : Nat) (g : Nat → Int32) : Nat → Nat → Int32 := fun j => if j = k then g else F j
theorem gfin {G : va_G} {W1 W2 : va_W} {H : Heap} (h : va_P G vwCl W1 H) (e : W1 = W2) : va_P G vwCl W2 H := e ▸ h
theorem gfinD {A : Nat → Prop} {W1 W2 : va_W} (h : va_D A W1) (e : W1 = W2) : va_D A W2 := e ▸ h
theorem gBi {G : va_G} {W1 : va_W} {t : State} {H : Heap} (ht : t.heap = H) (h : va_P G vwCl W1 H) : gB G W1 () t := by
  show va_P G vwCl W1 t.heap
  rw [ht]; exact h
theorem gin {x : Int32} {j n : Nat} (hi : x = nI j) (hj : j < n) (hn : n < 2 ^ 31) : vp_in x n := by rw [hi]; exact vp_in_nI hj hn
theorem gcl {x : Int32} {j n : Nat} (hi : x = nI j) (hj : j < n) (hn : n < 2 ^ 31) : x.toNatClampNeg = j := by rw [hi]; exact nI_clamp (by omega)
section GR
variable {p : Program} {l : Launch} {e : Env} {R : Room} {s : State} {m : MethodId} {args : Array Value} {below : List Frame} {meth : Method} {c : Code} {H : Heap} {locs : List Loc} {cells slots : Nat} {Q : State → Prop}
variable {cc : ByteArray} {pc : Nat} {ls : Array Slot} {rest : List Value} {D : va_G} {cl : List vw_C} {A : Nat → Prop} {a : Nat} {tys : List (ClassId × FieldType)} {ws : va_W} {H0 : Heap}
theorem gtop {x y : Int32} (h : x = y) (k : W p l e R s m args below meth c H locs cells slots Q (F0 m pc ls (.int y :: rest))) : W p l e R s m args below meth c H locs cells slots Q (F0 m pc ls (.int x :: rest)) := by subst h; exact k
theorem giald (hexec : p.tables.exec = Jvm.exec) (hb : c.code = cc) (hK : va_K D cl tys s) (hP : va_P D cl ws H) (q0 t0 : Nat) {cA : ClassId} {n j : Nat} {f : Nat → Int32} (ha : ws[q0]? = some (a, .inl (cA, n, .inl f))) (ht : tys[t0]? = some (cA, .int)) {i : Int32} (hi : i = nI j) (hj : j < n) (hn : n < 2 ^ 31) (hdg : decode cc pc = .ok (.iaload, 1))
    (kk : W p l e R s m args below meth c H locs cells slots Q (F0 m (pc + 1) ls (.int (f j) :: rest))) : W p l e R s m args below meth c H locs cells slots Q (F0 m pc ls (.int i :: .ref a :: rest)) := by
  refine va_iald hexec hb hK hP q0 t0 ha ht (gin hi hj hn) hdg ?_
  rw [gcl hi hj hn]; exact kk
theorem gzald (hexec : p.tables.exec = Jvm.exec) (hb : c.code = cc) (hK : va_K D cl tys s) (hP : va_P D cl ws H) (q0 t0 : Nat) {cA : ClassId} {n j : Nat} {f : Nat → Int32} (ha : ws[q0]? = some (a, .inl (cA, n, .inl f))) (ht : tys[t0]? = some (cA, .boolean)) {i : Int32} (hi : i = nI j) (hj : j < n) (hn : n < 2 ^ 31) (hdg : decode cc pc = .ok (.baload, 1))
    (kk : W p l e R s m args below meth c H locs cells slots Q (F0 m (pc + 1) ls (.int (f j) :: rest))) : W p l e R s m args below meth c H locs cells slots Q (F0 m pc ls (.int i :: .ref a :: rest)) := by
  refine va_zald hexec hb hK hP q0 t0 ha ht (gin hi hj hn) hdg ?_
  rw [gcl hi hj hn]; exact kk
theorem galdr (hexec : p.tables.exec = Jvm.exec) (hb : c.code = cc) (hK : va_K D cl tys s) (hP : va_P D cl ws H) (q0 t0 : Nat) {cA : ClassId} {C : String} {n j : Nat} {g : Nat → Nat} (ha : ws[q0]? = some (a, .inl (cA, n, .inr (.inr (.inr (.inr (fun j => some (g j)))))))) (ht : tys[t0]? = some (cA, .object C)) {i : Int32} (hi : i = nI j) (hj : j < n) (hn : n < 2 ^ 31) (hdg : decode cc pc = .ok (.aaload, 1))
    (kk : W p l e R s m args below meth c H locs cells slots Q (F0 m (pc + 1) ls (.ref (g j) :: rest))) : W p l e R s m args below meth c H locs cells slots Q (F0 m pc ls (.int i :: .ref a :: rest)) := by
  refine va_aldq hexec hb hK hP q0 t0 ha ht (gin hi hj hn) hdg ?_
  rw [gcl hi hj hn]; exact kk
theorem glald (hexec : p.tables.exec = Jvm.exec) (hb : c.code = cc) (hK : va_K D cl tys s) (hP : va_P D cl ws H) (q0 t0 : Nat) {cA : ClassId} {n j : Nat} {f : Nat → Int64} (ha : ws[q0]? = some (a, .inl (cA, n, .inr (.inl f)))) (ht : tys[t0]? = some (cA, .long)) {i : Int32} (hi : i = nI j) (hj : j < n) (hn : n < 2 ^ 31) (hdg : decode cc pc = .ok (.laload, 1))
    (kk : W p l e R s m args below meth c H locs cells slots Q (F0 m (pc + 1) ls (.long (f j) :: rest))) : W p l e R s m args below meth c H locs cells slots Q (F0 m pc ls (.int i :: .ref a :: rest)) := by
  refine va_lald hexec hb hK hP q0 t0 ha ht (gin hi hj hn) hdg ?_
  rw [gcl hi hj hn]; exact kk
theorem giast (hexec : p.tables.exec = Jvm.exec) (hb : c.code = cc) (hK : va_K D cl tys s) (hP : va_P D cl ws H) (hD : va_D A ws) (hS : va_S A H0 H locs) (q0 t0 : Nat) {cA : ClassId} {n j : Nat} {f : Nat → Int32} (ha : ws[q0]? = some (a, .inl (cA, n, .inl f))) (ht : tys[t0]? = some (cA, .int)) {i : Int32} {x : Int32} (hi : i = nI j) (hj : j < n) (hn : n < 2 ^ 31) (hdg : decode cc pc = .ok (.iastore, 1))
    (kk : ∀ (H1 : Heap) (locs1 : List Loc), va_P D cl (ws.set q0 (a, .inl (cA, n, .inl (upd f j x)))) H1 → va_D A (ws.set q0 (a, .inl (cA, n, .inl (upd f j x)))) → va_S A H0 H1 locs1 → W p l e R s m args below meth c H1 locs1 cells slots Q (F0 m (pc + 1) ls rest)) : W p l e R s m args below meth c H locs cells slots Q (F0 m pc ls (.int x :: .int i :: .ref a :: rest)) := by
  refine va_iast hexec hb hK hP hD hS q0 t0 ha ht (gin hi hj hn) hdg ?_
  rw [gcl hi hj hn]; exact kk
theorem gzast (hexec : p.tables.exec = Jvm.exec) (hb : c.code = cc) (hK : va_K D cl tys s) (hP : va_P D cl ws H) (hD : va_D A ws) (hS : va_S A H0 H locs) (q0 t0 : Nat) {cA : ClassId} {n j : Nat} {f : Nat → Int32} (ha : ws[q0]? = some (a, .inl (cA, n, .inl f))) (ht : tys[t0]? = some (cA, .boolean)) {i : Int32} {x : Int32} (hi : i = nI j) (hj : j < n) (hn : n < 2 ^ 31) (hx : vp_nar .boolean x = x) (hdg : decode cc pc = .ok (.bastore, 1))
    (kk : ∀ (H1 : Heap) (locs1 : List Loc), va_P D cl (ws.set q0 (a, .inl (cA, n, .inl (upd f j x)))) H1 → va_D A (ws.set q0 (a, .inl (cA, n, .inl (upd f j x)))) → va_S A H0 H1 locs1 → W p l e R s m args below meth c H1 locs1 cells slots Q (F0 m (pc + 1) ls rest)) : W p l e R s m args below meth c H locs cells slots Q (F0 m pc ls (.int x :: .int i :: .ref a :: rest)) := by
  refine va_zast hexec hb hK hP hD hS q0 t0 ha ht (gin hi hj hn) hdg ?_
  rw [gcl hi hj hn, hx]; exact kk
theorem glast (hexec : p.tables.exec = Jvm.exec) (hb : c.code = cc) (hK : va_K D cl tys s) (hP : va_P D cl ws H) (hD : va_D A ws) (hS : va_S A H0 H locs) (q0 t0 : Nat) {cA : ClassId} {n j : Nat} {f : Nat → Int64} (ha : ws[q0]? = some (a, .inl (cA, n, .inr (.inl f)))) (ht : tys[t0]? = some (cA, .long)) {i : Int32} {x : Int64} (hi : i = nI j) (hj : j < n) (hn : n < 2 ^ 31) (hdg : decode cc pc = .ok (.lastore, 1))
    (kk : ∀ (H1 : Heap) (locs1 : List Loc), va_P D cl (ws.set q0 (a, .inl (cA, n, .inr (.inl (vp_updL f j x))))) H1 → va_D A (ws.set q0 (a, .inl (cA, n, .inr (.inl (vp_updL f j x))))) → va_S A H0 H1 locs1 → W p l e R s m args below meth c H1 locs1 cells slots Q (F0 m (pc + 1) ls rest)) : W p l e R s m args below meth c H locs cells slots Q (F0 m pc ls (.long x :: .int i :: .ref a :: rest)) := by
  refine va_last hexec hb hK hP hD hS q0 t0 ha ht (gin hi hj hn) hdg ?_
  rw [gcl hi hj hn]; exact kk
end GR
/-- an int row is what it holds below its length -/
theorem gcell (cI : ClassId) {n : Nat} {f g : Nat → Int32} (h : ∀ j, j < n → f j = g j) : vp_cell cI (n, .inl f) = vp_cell cI (n, .inl g) := by
  have e : (fun j : Fin n => (Value.int (f j.val))) = (fun j : Fin n => Value.int (g j.val)) := funext fun j => by rw [h j.val j.isLt]
  show arrV cI n (fun j => .int (f j)) = arrV cI n (fun j => .int (g j))
  simp only [arrV]
  rw [e]
/-- .. so a world's int row may be said by another function -/
theorem grow {G : va_G} {ws : va_W} {H : Heap} (h : va_P G vwCl ws H) (q0 : Nat) {a : Nat} {cI : ClassId} {n : Nat} {f : Nat → Int32} (ha : ws[q0]? = some (a, .inl (cI, n, .inl f))) (g : Nat → Int32) (hg : ∀ j, j < n → f j = g j) : va_P G vwCl (ws.set q0 (a, .inl (cI, n, .inl g))) H := by
  intro k q hk
  by_cases hkp : k = q0
  · subst hkp
    have hl := (List.getElem?_eq_some_iff.mp ha).1
    rw [List.getElem?_set_self hl] at hk
    cases hk
    have h1 := h k _ ha
    show H[a]? = some (vp_cell cI (n, .inl g))
    rw [← gcell cI hg]
    exact h1
  · rw [List.getElem?_set_ne (Ne.symm hkp)] at hk
    exact h k q hk
/-- apartness is of the addresses alone -/
theorem gD_fst {A : Nat → Prop} {ws ws' : va_W} (hD : va_D A ws) (h1 : ws'.map Prod.fst = ws.map Prod.fst) : va_D A ws' := by
  have ad : ∀ (j : Nat) (q : Nat × va_E), ws'[j]? = some q → ∃ q', ws[j]? = some q' ∧ q'.1 = q.1 := by
    intro j q hq
    have h2 : (ws'.map Prod.fst)[j]? = some q.1 := by rw [List.getElem?_map, hq]; rfl
    rw [h1, List.getElem?_map] at h2
    cases hi : ws[j]? with
    | none => rw [hi] at h2; cases h2
    | some i => rw [hi] at h2; exact ⟨i, rfl, Option.some.inj h2⟩
  refine ⟨fun i j x y hi hj hxy => ?_, fun k q hq => ?_⟩
  · obtain ⟨x', h2, h3⟩ := ad i x hi
    obtain ⟨y', h4, h5⟩ := ad j y hj
    exact hD.1 i j x' y' h2 h4 (h3.trans (hxy.trans h5.symm))
  · obtain ⟨q', h2, h3⟩ := ad k q hq
    rw [← h3]
    exact hD.2 k q' h2
theorem gtailP {G : va_G} {X wc : va_W} {H : Heap} (hP : va_P G vwCl (X ++ wc) H) : va_P G vwCl wc H := fun k q hk => hP (X.length + k) q (by rw [List.getElem?_append_right (by omega)]; simpa using hk)
theorem gtailD {A : Nat → Prop} {X wc : va_W} (hD : va_D A (X ++ wc)) : va_D A wc := by
  have e : ∀ (k : Nat) (q : Nat × va_E), wc[k]? = some q → (X ++ wc)[X.length + k]? = some q := fun k q hk => by rw [List.getElem?_append_right (by omega)]; simpa using hk
  exact ⟨fun i j p q hi hj h => by have := hD.1 _ _ p q (e i p hi) (e j q hj) h; omega, fun k q hk => hD.2 _ q (e k q hk)⟩
theorem gtailF {A0 : Nat → Prop} {X wc : va_W} {H0 H : Heap} {locs : List Loc} (hD : va_D A0 (X ++ wc)) (hS : va_S A0 H0 H locs) (hA : ∀ q, H0.size ≤ q → A0 q) : ∀ q, va_A wc H.size q → A0 q := by
  intro q h
  rcases h with ⟨k, e, h⟩ | h
  · exact (gtailD hD).2 k (q, e) h
  · exact hA q (Nat.le_trans hS.1 h)
theorem gpreT {G : va_G} {T : Nat → ClassId} {av : List Value} {A0 : Nat → Prop} {s : State} {X wc : va_W} {H : Heap} {locs : List Loc} (hE : gE A0 s) (hK : va_K G vwCl (gT T) s) (hP : va_P G vwCl (X ++ wc) H) (hD : va_D A0 (X ++ wc)) (hS : va_S A0 s.heap H locs) (hA : ∀ q, s.heap.size ≤ q → A0 q) :
    ∀ U : State, U.heap = H → s.WarmedH U.vm → gPc G T av wc H.size av.toArray U := by
  intro U hU hW
  exact ⟨rfl, by rw [hU], by rw [hU]; exact gtailP hP, va_K.moved hW.alike hK, (gtailD hD).weaken (fun _ _ _ _ => trivial), gE.call hE hS (gtailF hD hS hA) hU hW⟩
theorem gjoinT {A0 : Nat → Prop} {G : va_G} {X wc w1 : va_W} {H H1 : Heap} (hP : va_P G vwCl (X ++ wc) H) (hD : va_D A0 (X ++ wc)) (h1 : w1.map Prod.fst = wc.map Prod.fst)
    (hk : ∀ q : Nat, q < H.size → ¬ va_A wc H.size q → H1[q]? = H[q]?) (hP1 : va_P G vwCl w1 H1) : va_P G vwCl (X ++ w1) H1 ∧ va_D A0 (X ++ w1) := by
  refine ⟨va_P.app (fun k q hk2 => ?_) hP1, gD_fst hD (by rw [List.map_append, List.map_append, h1])⟩
  have hlt : k < X.length := (List.getElem?_eq_some_iff.mp hk2).1
  have hk3 : (X ++ wc)[k]? = some q := by rw [List.getElem?_append_left hlt]; exact hk2
  have hl := (hP k q hk3).lt
  refine (hP k q hk3).kept (hk q.1 hl (fun h => ?_))
  rcases h with ⟨j, e, h⟩ | h
  · have h4 : (X ++ wc)[X.length + j]? = some (q.1, e) := by rw [List.getElem?_append_right (by omega)]; simpa using h
    have := hD.1 _ _ q (q.1, e) hk3 h4 rfl
    omega
  · omega
section GCT
variable {p : Program} {l : Launch} {e : Env} {R : Room} {s : State} {m : MethodId} {args : Array Value} {below : List Frame} {meth : Method} {c : Code} {H : Heap} {locs : List Loc} {cells slots : Nat} {Q : State → Prop}
variable {pc : Nat} {ls : Array Slot} {rest st0 : List Value} {a : Array Value} {A0 : Nat → Prop} {mc ms : Nat} {G : va_G} {X wc w1 : va_W}
theorem gciT {post : Int32 → Unit → Prop} (hr : va_Run p l e R s m args below meth c H locs cells slots mc ms (F0 m pc ls st0) rest (va_Qi post (gB G w1) (va_A wc H.size) a) (va_A wc H.size))
    (hP : va_P G vwCl (X ++ wc) H) (hD : va_D A0 (X ++ wc)) (hS : va_S A0 s.heap H locs) (hA : ∀ q, s.heap.size ≤ q → A0 q) (h1 : w1.map Prod.fst = wc.map Prod.fst)
    (kk : ∀ (r : Int32) (H1 : Heap) (locs1 : List Loc), post r () → va_P G vwCl (X ++ w1) H1 → va_D A0 (X ++ w1) → va_S A0 s.heap H1 locs1 → W p l e R s m args below meth c H1 locs1 (cells + mc) (slots + ms) Q (F0 m (pc + 3) ls (.int r :: rest))) : W p l e R s m args below meth c H locs cells slots Q (F0 m pc ls st0) := by
  have hF := gtailF hD hS hA
  refine va_calli hr hS (fun q _ h => hF q h) hF (fun r u t H1 locs1 ht hvm hw hB hz1 hk1 hS1 => ?_)
  have hB : va_P G vwCl w1 t.heap := hB
  rw [ht] at hB
  obtain ⟨h2, h3⟩ := gjoinT hP hD h1 hk1 hB
  exact kk r H1 locs1 hw h2 h3 hS1
theorem gxiT {post : Int32 → Unit → Prop} {pe : String → Prop} (hr : vx_Run p l e R s m args below meth c H locs cells slots mc ms (F0 m pc ls st0) rest (va_Qi post (gB G w1) (va_A wc H.size) a) (gX G wc H.size pe) (va_A wc H.size))
    (hP : va_P G vwCl (X ++ wc) H) (hD : va_D A0 (X ++ wc)) (hS : va_S A0 s.heap H locs) (hA : ∀ q, s.heap.size ≤ q → A0 q) (h1 : w1.map Prod.fst = wc.map Prod.fst)
    (kx : ∀ (E : String) (ce : Cell) (q9 : Addr) (H1 : Heap) (locs1 : List Loc), pe E → va_P G vwCl (X ++ wc) H1 → va_D A0 (X ++ wc) → va_S A0 s.heap H1 locs1 → H1[q9]? = some ce → ce.vm = .none → s.vm.findClass E = some ce.cls → vx_W p l e R s m args below meth c H1 locs1 (cells + mc) (slots + ms) Q (F0 m pc ls rest) q9)
    (kk : ∀ (r : Int32) (H1 : Heap) (locs1 : List Loc), post r () → va_P G vwCl (X ++ w1) H1 → va_D A0 (X ++ w1) → va_S A0 s.heap H1 locs1 → W p l e R s m args below meth c H1 locs1 (cells + mc) (slots + ms) Q (F0 m (pc + 3) ls (.int r :: rest))) : W p l e R s m args below meth c H locs cells slots Q (F0 m pc ls st0) := by
  have hF := gtailF hD hS hA
  refine vx_calli hr hS (fun q _ h => hF q h) hF (fun q _ h => hF q h) (fun E ce q9 u t H1 locs1 ht hvm _ hB hz1 hk1 hS1 hce hcv hcl => ?_) (fun r u t H1 locs1 ht hvm hw hB hz1 hk1 hS1 => ?_)
  · have hB : pe E ∧ va_P G vwCl wc t.heap := hB
    rw [ht] at hB
    obtain ⟨h2, h3⟩ := gjoinT hP hD rfl hk1 hB.2
    exact kx E ce q9 H1 locs1 hB.1 h2 h3 hS1 hce hcv hcl
  · have hB : va_P G vwCl w1 t.heap := hB
    rw [ht] at hB
    obtain ⟨h2, h3⟩ := gjoinT hP hD h1 hk1 hB
    exact kk r H1 locs1 hw h2 h3 hS1
end GCT
