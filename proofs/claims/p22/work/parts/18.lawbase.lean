/-! THE LAW'S METHODS: the bundles that their contracts carry, and what stands behind their calls -/
/-- the script, that no cell of the world is -/
abbrev gPs (G : va_G) (T : Nat → ClassId) (b L : Nat) (xs : Nat → Int32) (av : List Value) (W : va_W) (sz : Nat) : Array Value → State → Prop := va_Pc av (fun U => gS G T W sz U ∧ va_X b L xs U U.heap ∧ b < sz ∧ ¬ va_A W sz b)
theorem gblindS {G : va_G} {T : Nat → ClassId} {b L : Nat} {xs : Nat → Int32} {av : List Value} {W : va_W} {sz : Nat} : FrameBlind (gPs G T b L xs av W sz) := by
  intro a U g mk h
  obtain ⟨h0, h1, h2, h3, h4⟩ := h
  exact ⟨h0, (gblind (G := G) (T := T) (av := av) (W := W) (sz := sz) a U g mk ⟨h0, h1⟩).2, va_X.moved (u := U) (Vm.Alike.refl U.vm) h2, h3, h4⟩
theorem gpreST {G : va_G} {T : Nat → ClassId} {b L : Nat} {xs : Nat → Int32} {av : List Value} {A0 : Nat → Prop} {s : State} {X wc : va_W} {H : Heap} {locs : List Loc} (hX : va_X b L xs s s.heap) (hbl : b < s.heap.size) (hbA : ¬ A0 b) (hE : gE A0 s) (hK : va_K G vwCl (gT T) s) (hP : va_P G vwCl (X ++ wc) H) (hD : va_D A0 (X ++ wc)) (hS : va_S A0 s.heap H locs) (hA : ∀ q, s.heap.size ≤ q → A0 q) :
    ∀ U : State, U.heap = H → s.WarmedH U.vm → gPs G T b L xs av wc H.size av.toArray U := by
  intro U hU hW
  refine ⟨rfl, (gpreT (T := T) (av := av) hE hK hP hD hS hA U hU hW).2, ?_, Nat.lt_of_lt_of_le hbl hS.1, fun h => hbA (gtailF hD hS hA b h)⟩
  rw [hU]
  exact va_X.moved hW.alike (hX.kept (hS.2.1 b hbl hbA))
section GSL
variable {p : Program} {l : Launch} {e : Env} {R : Room} {s : State} {m : MethodId} {args : Array Value} {below : List Frame} {meth : Method} {c : Code} {H : Heap} {locs : List Loc} {cells slots : Nat} {Q : State → Prop}
variable {cc : ByteArray} {pc : Nat} {ls : Array Slot} {rest st0 : List Value} {A : Nat → Prop} {H0 : Heap} {mc ms : Nat} {G : va_G}
theorem gsld (hexec : p.tables.exec = Jvm.exec) (hb : c.code = cc) {b L : Nat} {xs : Nat → Int32} (hX : va_X b L xs s H0) (hbl : b < H0.size) (hbA : ¬ A b) (hS : va_S A H0 H locs) {j : Nat} (hj : j < L) (hL : L < 2 ^ 31) {v : Int32} (hv : v = xs j) (hdg : decode cc pc = .ok (.iaload, 1))
    (kk : W p l e R s m args below meth c H locs cells slots Q (F0 m (pc + 1) ls (.int v :: rest))) : W p l e R s m args below meth c H locs cells slots Q (F0 m pc ls (.int (nI j) :: .ref b :: rest)) := by
  refine va_sld hexec hb hX hbl hbA hS (vp_in_nI hj hL) hdg ?_
  rw [nI_clamp (by omega), ← hv]; exact kk
/-- behind a call that answers an int, and leaves a world that it tells by an unknown u -/
theorem gciET {S : Type} {post : Int32 → S → Prop} {a : Array Value} {A0 : Nat → Prop} {X wc : va_W} {w1 : S → va_W} (hr : va_Run p l e R s m args below meth c H locs cells slots mc ms (F0 m pc ls st0) rest (va_Qi post (fun u t => va_P G vwCl (w1 u) t.heap) (va_A wc H.size) a) (va_A wc H.size))
    (hP : va_P G vwCl (X ++ wc) H) (hD : va_D A0 (X ++ wc)) (hS : va_S A0 s.heap H locs) (hA : ∀ q, s.heap.size ≤ q → A0 q) (h1 : ∀ u, (w1 u).map Prod.fst = wc.map Prod.fst)
    (kk : ∀ (r : Int32) (u : S) (H1 : Heap) (locs1 : List Loc), post r u → va_P G vwCl (X ++ w1 u) H1 → va_D A0 (X ++ w1 u) → va_S A0 s.heap H1 locs1 → W p l e R s m args below meth c H1 locs1 (cells + mc) (slots + ms) Q (F0 m (pc + 3) ls (.int r :: rest))) : W p l e R s m args below meth c H locs cells slots Q (F0 m pc ls st0) := by
  have hF := gtailF hD hS hA
  refine va_calli hr hS (fun q _ h => hF q h) hF (fun r u t H1 locs1 ht hvm hw hB hz1 hk1 hS1 => ?_)
  have hB : va_P G vwCl (w1 u) t.heap := hB
  rw [ht] at hB
  obtain ⟨h2, h3⟩ := gjoinT hP hD (h1 u) hk1 hB
  exact kk r u H1 locs1 hw h2 h3 hS1
/-- behind a call that answers nothing, with the tail of the world -/
theorem gcvT {post : Unit → Prop} {a : Array Value} {A0 : Nat → Prop} {X wc w1 : va_W} (hr : va_Run p l e R s m args below meth c H locs cells slots mc ms (F0 m pc ls st0) rest (va_Qv post (gB G w1) (va_A wc H.size) a) (va_A wc H.size))
    (hP : va_P G vwCl (X ++ wc) H) (hD : va_D A0 (X ++ wc)) (hS : va_S A0 s.heap H locs) (hA : ∀ q, s.heap.size ≤ q → A0 q) (h1 : w1.map Prod.fst = wc.map Prod.fst)
    (kk : ∀ (H1 : Heap) (locs1 : List Loc), post () → va_P G vwCl (X ++ w1) H1 → va_D A0 (X ++ w1) → va_S A0 s.heap H1 locs1 → W p l e R s m args below meth c H1 locs1 (cells + mc) (slots + ms) Q (F0 m (pc + 3) ls rest)) : W p l e R s m args below meth c H locs cells slots Q (F0 m pc ls st0) := by
  have hF := gtailF hD hS hA
  refine va_callv hr hS (fun q _ h => hF q h) hF (fun u t H1 locs1 ht hvm hw hB hz1 hk1 hS1 => ?_)
  have hB : va_P G vwCl w1 t.heap := hB
  rw [ht] at hB
  obtain ⟨h2, h3⟩ := gjoinT hP hD h1 hk1 hB
  exact kk H1 locs1 hw h2 h3 hS1
end GSL
/-- a row of the law; its four rows; its world -/
abbrev cX (T : Nat → ClassId) (a n : Nat) (f : Nat → Int32) : va_W := [(a, .inl (T 0, n, .inl f))]
abbrev wX4 (T : Nat → ClassId) (Ad : Nat → Nat) (ta ca fa ga : Nat → Int32) : va_W := cX T (Ad 5) 48 ta ++ cX T (Ad 6) 48 ca ++ cX T (Ad 7) 48 fa ++ cX T (Ad 8) 3 ga
abbrev wW (T : Nat → ClassId) (Ad : Nat → Nat) (AF : Nat → Nat → Nat) (ta ca fa ga : Nat → Int32) (D mny : Nat → Int32) (N f g : Nat → Nat → Int32) (rk rf rg rh : Nat → Nat → Int32) : va_W := wX4 T Ad ta ca fa ga ++ wC T Ad AF D mny N f g rk rf rg rh
theorem wW_fst {T : Nat → ClassId} {Ad : Nat → Nat} {AF : Nat → Nat → Nat} {D mny D1 m1 : Nat → Int32} {N f g rk rf rg rh N1 f1 g1 k1 r1 h1 i1 : Nat → Nat → Int32} {ta ca fa ga ta1 ca1 fa1 ga1 : Nat → Int32} :
    (wW T Ad AF ta1 ca1 fa1 ga1 D1 m1 N1 f1 g1 k1 r1 h1 i1).map Prod.fst = (wW T Ad AF ta ca fa ga D mny N f g rk rf rg rh).map Prod.fst := by
  rw [List.map_append, List.map_append]
  exact congrArg (fun z => [Ad 5, Ad 6, Ad 7, Ad 8] ++ z) wC_fst
