/-! CONTRACTS IN A LARGER WORLD: a method's cells are cut out of its caller's world, and its contract goes with them -/
section LIFT
variable {l : Launch} {y : MethodName} {ws : List Cond} {rm : Room} {mc ms : Nat}
theorem Met.mono9 {Pc Pd : Array Value → State → Prop} {Qc Qd : Array Value → State → Outcome → State → Prop} {f1 f2 : Addr → Prop} (h : Met l y ws rm Pc Qc mc ms f1) (hP : ∀ a s, Pd a s → Pc a s) (hQ : ∀ a s o t, Pd a s → Qc a s o t → Qd a s o t) (hf : ∀ q, f1 q → f2 q) : Met l y ws rm Pd Qd mc ms f2 := by
  intro p e ha hc hk s m args below hfr happ hp _
  obtain ⟨n, o, h1, h2, h3, hq, L, hF, hL⟩ := h p e ha hc hk s m args below hfr happ (hP _ _ hp) trivial
  exact ⟨n, o, h1, h2, h3, hQ _ _ _ _ hp hq, L, hF, fun q hq2 => hf _ (hL q hq2)⟩
theorem vx_Met.ok9 {Pc : Array Value → State → Prop} {Qc : Array Value → State → Outcome → State → Prop} {XC : String → State → State → Prop} {f1 : Addr → Prop} (h : vx_Met l y ws rm Pc Qc XC mc ms f1) (hX : ∀ E s t, ¬ XC E s t) : Met l y ws rm Pc Qc mc ms f1 := by
  intro p e ha hc hk s m args below hfr happ hp _
  obtain ⟨n, o, h1, h2, h3, hq⟩ := h p e ha hc hk s m args below hfr happ hp trivial
  rcases hq with ⟨hq, L, hF, hL⟩ | ⟨q, -, E, ce, L, hx, -⟩
  · exact ⟨n, o, h1, h2, h3, hq, L, hF, hL⟩
  · exact absurd hx (hX _ _ _)
theorem gX_no {G : va_G} {W : va_W} {sz k : Nat} (hk : k = 0) : ∀ E s t, ¬ gX G W sz (fun E => pK k E) E s t := by
  intro E s t h
  obtain ⟨-, -, ⟨h2, -⟩, -⟩ := h
  have h2 : pK k E := h2
  subst hk
  simp [pK] at h2
theorem va_A_sub {big wc : va_W} {sz : Nat} {isC : List Nat} (hC : isC.map (fun i => big[i]?) = wc.map some) : ∀ q, va_A wc sz q → va_A big sz q := by
  intro q h
  rcases h with ⟨k, e, h⟩ | h
  · have h1 : (isC.map (fun i => big[i]?))[k]? = some (some (q, e)) := by rw [hC, List.getElem?_map, h]; rfl
    rw [List.getElem?_map] at h1
    cases hi : isC[k]? with
    | none => rw [hi] at h1; cases h1
    | some i => rw [hi] at h1; exact Or.inl ⟨i, e, Option.some.inj h1⟩
  · exact Or.inr h
theorem gE.narrow {A A1 : Nat → Prop} {U : State} (h : gE A U) (hF : ∀ q, A1 q → A q) : gE A1 U := by
  obtain ⟨h1, n, h2, h3⟩ := h
  exact ⟨h1, n, vx_Zq.narrow h2 hF, vx_Zq.narrow h3 hF⟩
theorem gW.narrow {aK aV : Nat → Nat} {A A1 : Nat → Prop} {U : State} (h : gW aK aV A U) (hF : ∀ q, A1 q → A q) : gW aK aV A1 U := by
  obtain ⟨h1, h2, h3, h4⟩ := h
  exact ⟨vk_S.narrow h1 hF, h2, va_Z.narrow h3 hF, va_Zq.narrow h4 hF⟩
theorem gS.sub {G : va_G} {T : Nat → ClassId} {big wc : va_W} {sz : Nat} {U : State} (h : gS G T big sz U) (isC : List Nat) (hn : va_nd isC = true) (hC : isC.map (fun i => big[i]?) = wc.map some) : gS G T wc sz U := by
  obtain ⟨h1, h2, h3, h4, h5⟩ := h
  refine ⟨h1, ?_, h3, h4.sub isC hn hC, h5.narrow (va_A_sub hC)⟩
  refine h2.sub isC ?_
  have e1 : isC.filterMap (fun i => big[i]?) = (isC.map (fun i => big[i]?)).filterMap id := by rw [List.filterMap_map]; rfl
  rw [e1, hC, List.filterMap_map]
  simp
variable {G : va_G} {T : Nat → ClassId} {av : List Value} {big wc w1 b1 : va_W} {sz : Nat} {post post' : Int32 → Unit → Prop}
theorem glift (h : Met l y ws rm (gPc G T av wc sz) (va_Qi post (gB G w1) (va_A wc sz)) mc ms (va_A wc sz)) (isC : List Nat) (hn : va_nd isC = true) (hC : isC.map (fun i => big[i]?) = wc.map some) (h1 : w1.map Prod.fst = wc.map Prod.fst) (hb : gRep big isC w1 = b1) (hp : ∀ r u, post r u → post' r u) : Met l y ws rm (gPc G T av big sz) (va_Qi post' (gB G b1) (va_A big sz)) mc ms (va_A big sz) := by
  subst hb
  refine Met.mono9 h (fun a s h => ⟨h.1, gS.sub h.2 isC hn hC⟩) (fun a s o t hp0 hq => ?_) (va_A_sub hC)
  obtain ⟨-, h2, h3, h4, h5, h6⟩ := hp0
  obtain ⟨⟨r, u, e1, e2, e3⟩, e4, e5⟩ := hq
  subst h2
  have e3 : va_P G vwCl w1 t.heap := e3
  exact ⟨⟨r, u, e1, hp r u e2, (gjoin h3 h5 isC hC h1 e5 e3).1⟩, e4, fun q q1 q2 => e5 q q1 (fun z => q2 (va_A_sub hC q z))⟩
theorem gliftW {aK aV : Nat → Nat} (h : Met l y ws rm (gPw G T aK aV av wc sz) (va_Qi post (gB G w1) (va_A wc sz)) mc ms (va_A wc sz)) (isC : List Nat) (hn : va_nd isC = true) (hC : isC.map (fun i => big[i]?) = wc.map some) (h1 : w1.map Prod.fst = wc.map Prod.fst) (hb : gRep big isC w1 = b1) (hp : ∀ r u, post r u → post' r u) : Met l y ws rm (gPw G T aK aV av big sz) (va_Qi post' (gB G b1) (va_A big sz)) mc ms (va_A big sz) := by
  subst hb
  refine Met.mono9 h (fun a s h => ⟨h.1, gS.sub h.2.1 isC hn hC, h.2.2.narrow (va_A_sub hC)⟩) (fun a s o t hp0 hq => ?_) (va_A_sub hC)
  obtain ⟨-, ⟨h2, h3, h4, h5, h6⟩, -⟩ := hp0
  obtain ⟨⟨r, u, e1, e2, e3⟩, e4, e5⟩ := hq
  subst h2
  have e3 : va_P G vwCl w1 t.heap := e3
  exact ⟨⟨r, u, e1, hp r u e2, (gjoin h3 h5 isC hC h1 e5 e3).1⟩, e4, fun q q1 q2 => e5 q q1 (fun z => q2 (va_A_sub hC q z))⟩
theorem gswapP {X Y : va_W} {H : Heap} (h : va_P G vwCl (X ++ Y) H) : va_P G vwCl (Y ++ X) H := by
  intro k q hk
  rcases Nat.lt_or_ge k Y.length with z | z
  · rw [List.getElem?_append_left z] at hk
    exact h (X.length + k) q (by rw [List.getElem?_append_right (by omega)]; simpa using hk)
  · rw [List.getElem?_append_right z] at hk
    have h2 := (List.getElem?_eq_some_iff.mp hk).1
    exact h (k - Y.length) q (by rw [List.getElem?_append_left h2]; exact hk)
theorem gswapD {A : Nat → Prop} {X Y : va_W} (h : va_D A (X ++ Y)) : va_D A (Y ++ X) := by
  have at' : ∀ (k : Nat) (q : Nat × va_E), (Y ++ X)[k]? = some q → (k < Y.length ∧ (X ++ Y)[X.length + k]? = some q) ∨ (Y.length ≤ k ∧ k - Y.length < X.length ∧ (X ++ Y)[k - Y.length]? = some q) := by
    intro k q hk
    rcases Nat.lt_or_ge k Y.length with z | z
    · rw [List.getElem?_append_left z] at hk
      exact Or.inl ⟨z, by rw [List.getElem?_append_right (by omega)]; simpa using hk⟩
    · rw [List.getElem?_append_right z] at hk
      have h2 := (List.getElem?_eq_some_iff.mp hk).1
      exact Or.inr ⟨z, h2, by rw [List.getElem?_append_left h2]; exact hk⟩
  refine ⟨fun i j p q hi hj hpq => ?_, fun k q hk => ?_⟩
  · rcases at' i p hi with ⟨a1, a2⟩ | ⟨a1, a2, a3⟩
    · rcases at' j q hj with ⟨b1, b2⟩ | ⟨b1, b2, b3⟩
      · have := h.1 _ _ p q a2 b2 hpq; omega
      · have := h.1 _ _ p q a2 b3 hpq; omega
    · rcases at' j q hj with ⟨b1, b2⟩ | ⟨b1, b2, b3⟩
      · have := h.1 _ _ p q a3 b2 hpq; omega
      · have := h.1 _ _ p q a3 b3 hpq; omega
  · rcases at' k q hk with ⟨-, a2⟩ | ⟨-, -, a3⟩
    · exact h.2 _ q a2
    · exact h.2 _ q a3
theorem va_A_fst {X Y : va_W} : ∀ q, va_A X sz q → va_A (X ++ Y) sz q := by
  intro q h
  rcases h with ⟨k, e, h⟩ | h
  · exact Or.inl ⟨k, e, by rw [List.getElem?_append_left (List.getElem?_eq_some_iff.mp h).1]; exact h⟩
  · exact Or.inr h
/-- a method whose cells are the first of the world's -/
theorem gliftF {Y : va_W} (h : Met l y ws rm (gPc G T av wc sz) (va_Qi post (gB G w1) (va_A wc sz)) mc ms (va_A wc sz)) (h1 : w1.map Prod.fst = wc.map Prod.fst) (hp : ∀ r u, post r u → post' r u) : Met l y ws rm (gPc G T av (wc ++ Y) sz) (va_Qi post' (gB G (w1 ++ Y)) (va_A (wc ++ Y) sz)) mc ms (va_A (wc ++ Y) sz) := by
  refine Met.mono9 h (fun a s h => ?_) (fun a s o t hp0 hq => ?_) va_A_fst
  · obtain ⟨h0, h1, h2, h3, h4, h5⟩ := h
    exact ⟨h0, h1, gtailP (gswapP h2), h3, gtailD (gswapD h4), h5.narrow va_A_fst⟩
  · obtain ⟨-, h2, h3, h4, h5, h6⟩ := hp0
    obtain ⟨⟨r, u, e1, e2, e3⟩, e4, e5⟩ := hq
    subst h2
    have e3 : va_P G vwCl w1 t.heap := e3
    exact ⟨⟨r, u, e1, hp r u e2, gswapP (gjoinT (gswapP h3) (gswapD h5) h1 e5 e3).1⟩, e4, fun q q1 q2 => e5 q q1 (fun z => q2 (va_A_fst q z))⟩
end LIFT
/-! THE REGISTRY AS A WHOLE: its cells behind one word -/
def wC (T : Nat → ClassId) (Ad : Nat → Nat) (AF : Nat → Nat → Nat) (D mny : Nat → Int32) (N f g : Nat → Nat → Int32) (rk rf rg rh : Nat → Nat → Int32) : va_W := cA T (Ad 1) (Ad 2) (Ad 3) (Ad 4) D mny (AF 0) (AF 3) ++ (cNs T (AF 0) (AF 1) (AF 2) N f g ++ cRs T (AF 3) (AF 4) (AF 5) (AF 6) (AF 7) rk rf rg rh)
