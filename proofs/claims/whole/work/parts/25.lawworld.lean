/-! THE LAW: its world, and how a call's cells are cut out of it -/
theorem gswapP {G : va_G} {X Y : va_W} {H : Heap} (h : va_P G vwCl (X ++ Y) H) : va_P G vwCl (Y ++ X) H := by
  intro k q hk
  rcases Nat.lt_or_ge k Y.length with z | z
  · rw [List.getElem?_append_left z] at hk
    exact h (X.length + k) q (by rw [List.getElem?_append_right (by omega)]; simpa using hk)
  · rw [List.getElem?_append_right z] at hk
    have h2 := (List.getElem?_eq_some_iff.mp hk).1
    exact h (k - Y.length) q (by rw [List.getElem?_append_left h2]; exact hk)
theorem gswapD {A : Nat → Prop} {X Y : va_W} (h : va_D A (X ++ Y)) : va_D A (Y ++ X) := by
  have at' : ∀ (k : Nat) (q : Nat × va_E), (Y ++ X)[k]? = some q → (k < Y.length ∧ (X ++ Y)[X.length + k]? = some q) ∨ (Y.length ≤ k ∧ k - Y.length < X.length ∧ (X ++ Y)[k - Y.length]? = some q) := by
    intro k q hk
    rcases Nat.lt_or_ge k Y.length with z | z
    · rw [List.getElem?_append_left z] at hk
      exact Or.inl ⟨z, by rw [List.getElem?_append_right (by omega)]; simpa using hk⟩
    · rw [List.getElem?_append_right z] at hk
      have h2 := (List.getElem?_eq_some_iff.mp hk).1
      exact Or.inr ⟨z, h2, by rw [List.getElem?_append_left h2]; exact hk⟩
  refine ⟨fun i j p q hi hj hpq => ?_, fun k q hk => ?_⟩
  · rcases at' i p hi with ⟨a1, a2⟩ | ⟨a1, a2, a3⟩
    · rcases at' j q hj with ⟨b1, b2⟩ | ⟨b1, b2, b3⟩
      · have := h.1 _ _ p q a2 b2 hpq; omega
      · have := h.1 _ _ p q a2 b3 hpq; omega
    · rcases at' j q hj with ⟨b1, b2⟩ | ⟨b1, b2, b3⟩
      · have := h.1 _ _ p q a3 b2 hpq; omega
      · have := h.1 _ _ p q a3 b3 hpq; omega
  · rcases at' k q hk with ⟨-, a2⟩ | ⟨-, -, a3⟩
    · exact h.2 _ q a2
    · exact h.2 _ q a3
/-- the law's cells but the reference's: out, the class, the names, the resolvers -/
def wX (T : Nat → ClassId) (Ad : Nat → Nat) (AF : Nat → Nat → Nat) (ho : Nat → Int64) (D mny : Nat → Int32) (N f g : Nat → Nat → Int32) (rk rf rg rh : Nat → Nat → Int32) : va_W := [(Ad 0, .inl (T 4, 1, .inr (.inl ho)))] ++ (cA T (Ad 1) (Ad 2) (Ad 3) (Ad 4) D mny (AF 0) (AF 3) ++ (cNs T (AF 0) (AF 1) (AF 2) N f g ++ cRs T (AF 3) (AF 4) (AF 5) (AF 6) (AF 7) rk rf rg rh))
theorem wX_len {T : Nat → ClassId} {Ad : Nat → Nat} {AF : Nat → Nat → Nat} {ho : Nat → Int64} {D mny : Nat → Int32} {N f g : Nat → Nat → Int32} {rk rf rg rh : Nat → Nat → Int32} : (wX T Ad AF ho D mny N f g rk rf rg rh).length = 68 := rfl
set_option maxRecDepth 100000 in
set_option maxHeartbeats 8000000 in
theorem wL_m {T : Nat → ClassId} {Ad : Nat → Nat} {AF : Nat → Nat → Nat} {ho ho1 : Nat → Int64} {D mny D1 m1 : Nat → Int32} {N f g : Nat → Nat → Int32} {rk rf rg rh : Nat → Nat → Int32} {I1 : Nat → Int32} {F : Nat → Nat → Int32} : (wX T Ad AF ho D mny N f g rk rf rg rh ++ cM T (Ad 5) (AF 8) I1 F)[68]? = some (Ad 5, .inr (3, [.int (I1 0), .int (I1 1), .ref (AF 8 2), .ref (AF 8 3), .ref (AF 8 4), .ref (AF 8 5), .ref (AF 8 6), .ref (AF 8 7), .ref (AF 8 8), .ref (AF 8 9), .ref (AF 8 10), .ref (AF 8 11), .ref (AF 8 12), .int (I1 13), .ref (AF 8 14), .ref (AF 8 15), .ref (AF 8 16), .int (I1 17)])) := by
  rw [List.getElem?_append_right (Nat.le_of_eq wX_len), wX_len]; rfl
set_option maxRecDepth 100000 in
set_option maxHeartbeats 8000000 in
theorem wL_0 {T : Nat → ClassId} {Ad : Nat → Nat} {AF : Nat → Nat → Nat} {ho ho1 : Nat → Int64} {D mny D1 m1 : Nat → Int32} {N f g : Nat → Nat → Int32} {rk rf rg rh : Nat → Nat → Int32} {I1 : Nat → Int32} {F : Nat → Nat → Int32} : (wX T Ad AF ho D mny N f g rk rf rg rh ++ cM T (Ad 5) (AF 8) I1 F)[0]? = some (Ad 0, .inl (T 4, 1, .inr (.inl ho))) := rfl
set_option maxRecDepth 100000 in
set_option maxHeartbeats 8000000 in
theorem wL_1 {T : Nat → ClassId} {Ad : Nat → Nat} {AF : Nat → Nat → Nat} {ho ho1 : Nat → Int64} {D mny D1 m1 : Nat → Int32} {N f g : Nat → Nat → Int32} {rk rf rg rh : Nat → Nat → Int32} {I1 : Nat → Int32} {F : Nat → Nat → Int32} : (wX T Ad AF ho D mny N f g rk rf rg rh ++ cM T (Ad 5) (AF 8) I1 F)[1]? = some (Ad 1, .inr (2, [.ref (Ad 2), .ref (Ad 3), .ref (Ad 4), .int (D 3), .int (D 4), .int (D 5)])) := rfl
set_option maxRecDepth 100000 in
set_option maxHeartbeats 8000000 in
theorem wL_cutC {T : Nat → ClassId} {Ad : Nat → Nat} {AF : Nat → Nat → Nat} {ho ho1 : Nat → Int64} {D mny D1 m1 : Nat → Int32} {N f g : Nat → Nat → Int32} {rk rf rg rh : Nat → Nat → Int32} {I1 : Nat → Int32} {F : Nat → Nat → Int32} : [1, 2, 3, 4].map (fun k => (wX T Ad AF ho D mny N f g rk rf rg rh ++ cM T (Ad 5) (AF 8) I1 F)[k]?) = (cA T (Ad 1) (Ad 2) (Ad 3) (Ad 4) D mny (AF 0) (AF 3) : va_W).map some := rfl
set_option maxRecDepth 100000 in
set_option maxHeartbeats 8000000 in
theorem wL_repC {T : Nat → ClassId} {Ad : Nat → Nat} {AF : Nat → Nat → Nat} {ho ho1 : Nat → Int64} {D mny D1 m1 : Nat → Int32} {N f g : Nat → Nat → Int32} {rk rf rg rh : Nat → Nat → Int32} {I1 : Nat → Int32} {F : Nat → Nat → Int32} : gRep (wX T Ad AF ho D mny N f g rk rf rg rh ++ cM T (Ad 5) (AF 8) I1 F) [1, 2, 3, 4] (cA T (Ad 1) (Ad 2) (Ad 3) (Ad 4) D mny (AF 0) (AF 3)) = (wX T Ad AF ho D mny N f g rk rf rg rh ++ cM T (Ad 5) (AF 8) I1 F) := rfl
set_option maxRecDepth 100000 in
set_option maxHeartbeats 8000000 in
theorem wL_cutA {T : Nat → ClassId} {Ad : Nat → Nat} {AF : Nat → Nat → Nat} {ho ho1 : Nat → Int64} {D mny D1 m1 : Nat → Int32} {N f g : Nat → Nat → Int32} {rk rf rg rh : Nat → Nat → Int32} {I1 : Nat → Int32} {F : Nat → Nat → Int32} : [0, 1, 2, 3, 4].map (fun k => (wX T Ad AF ho D mny N f g rk rf rg rh ++ cM T (Ad 5) (AF 8) I1 F)[k]?) = (([(Ad 0, .inl (T 4, 1, .inr (.inl ho)))] : va_W) ++ cA T (Ad 1) (Ad 2) (Ad 3) (Ad 4) D mny (AF 0) (AF 3) : va_W).map some := rfl
set_option maxRecDepth 100000 in
set_option maxHeartbeats 8000000 in
theorem wL_repA {T : Nat → ClassId} {Ad : Nat → Nat} {AF : Nat → Nat → Nat} {ho ho1 : Nat → Int64} {D mny D1 m1 : Nat → Int32} {N f g : Nat → Nat → Int32} {rk rf rg rh : Nat → Nat → Int32} {I1 : Nat → Int32} {F : Nat → Nat → Int32} : gRep (wX T Ad AF ho D mny N f g rk rf rg rh ++ cM T (Ad 5) (AF 8) I1 F) [0, 1, 2, 3, 4] (([(Ad 0, .inl (T 4, 1, .inr (.inl ho1)))] : va_W) ++ cA T (Ad 1) (Ad 2) (Ad 3) (Ad 4) D1 m1 (AF 0) (AF 3)) = (wX T Ad AF ho1 D1 m1 N f g rk rf rg rh ++ cM T (Ad 5) (AF 8) I1 F) := rfl
set_option maxRecDepth 100000 in
set_option maxHeartbeats 8000000 in
theorem wL_cutN {T : Nat → ClassId} {Ad : Nat → Nat} {AF : Nat → Nat → Nat} {ho ho1 : Nat → Int64} {D mny D1 m1 : Nat → Int32} {N f g : Nat → Nat → Int32} {rk rf rg rh : Nat → Nat → Int32} {I1 : Nat → Int32} {F : Nat → Nat → Int32} : ∀ {j : Nat}, j < 16 → [0, 1, 2, 3, 4, 5 + 3 * j, 6 + 3 * j, 7 + 3 * j].map (fun k => (wX T Ad AF ho D mny N f g rk rf rg rh ++ cM T (Ad 5) (AF 8) I1 F)[k]?) = (([(Ad 0, .inl (T 4, 1, .inr (.inl ho)))] : va_W) ++ cA T (Ad 1) (Ad 2) (Ad 3) (Ad 4) D mny (AF 0) (AF 3) ++ cN T (AF 0 j) (AF 1 j) (AF 2 j) (N j) (f j) (g j) : va_W).map some
  | 0, _ => rfl
  | 1, _ => rfl
  | 2, _ => rfl
  | 3, _ => rfl
  | 4, _ => rfl
  | 5, _ => rfl
  | 6, _ => rfl
  | 7, _ => rfl
  | 8, _ => rfl
  | 9, _ => rfl
  | 10, _ => rfl
  | 11, _ => rfl
  | 12, _ => rfl
  | 13, _ => rfl
  | 14, _ => rfl
  | 15, _ => rfl
  | q + 16, h => absurd h (by omega)
set_option maxRecDepth 100000 in
set_option maxHeartbeats 8000000 in
theorem wL_repN {T : Nat → ClassId} {Ad : Nat → Nat} {AF : Nat → Nat → Nat} {ho ho1 : Nat → Int64} {D mny D1 m1 : Nat → Int32} {N f g : Nat → Nat → Int32} {rk rf rg rh : Nat → Nat → Int32} {I1 : Nat → Int32} {F : Nat → Nat → Int32} {N1 f1 g1 : Nat → Int32} : ∀ {j : Nat}, j < 16 → gRep (wX T Ad AF ho D mny N f g rk rf rg rh ++ cM T (Ad 5) (AF 8) I1 F) [0, 1, 2, 3, 4, 5 + 3 * j, 6 + 3 * j, 7 + 3 * j] (([(Ad 0, .inl (T 4, 1, .inr (.inl ho1)))] : va_W) ++ cA T (Ad 1) (Ad 2) (Ad 3) (Ad 4) D1 m1 (AF 0) (AF 3) ++ cN T (AF 0 j) (AF 1 j) (AF 2 j) N1 f1 g1) = (wX T Ad AF ho1 D1 m1 (updA N j N1) (updA f j f1) (updA g j g1) rk rf rg rh ++ cM T (Ad 5) (AF 8) I1 F)
  | 0, _ => rfl
  | 1, _ => rfl
  | 2, _ => rfl
  | 3, _ => rfl
  | 4, _ => rfl
  | 5, _ => rfl
  | 6, _ => rfl
  | 7, _ => rfl
  | 8, _ => rfl
  | 9, _ => rfl
  | 10, _ => rfl
  | 11, _ => rfl
  | 12, _ => rfl
  | 13, _ => rfl
  | 14, _ => rfl
  | 15, _ => rfl
  | q + 16, h => absurd h (by omega)
set_option maxRecDepth 100000 in
set_option maxHeartbeats 8000000 in
theorem wL_cutR {T : Nat → ClassId} {Ad : Nat → Nat} {AF : Nat → Nat → Nat} {ho ho1 : Nat → Int64} {D mny D1 m1 : Nat → Int32} {N f g : Nat → Nat → Int32} {rk rf rg rh : Nat → Nat → Int32} {I1 : Nat → Int32} {F : Nat → Nat → Int32} : ∀ {r : Nat}, r < 3 → [0, 1, 2, 3, 4, 53 + 5 * r, 54 + 5 * r, 55 + 5 * r, 56 + 5 * r, 57 + 5 * r].map (fun k => (wX T Ad AF ho D mny N f g rk rf rg rh ++ cM T (Ad 5) (AF 8) I1 F)[k]?) = (([(Ad 0, .inl (T 4, 1, .inr (.inl ho)))] : va_W) ++ cA T (Ad 1) (Ad 2) (Ad 3) (Ad 4) D mny (AF 0) (AF 3) ++ cR T (AF 3 r) (AF 4 r) (AF 5 r) (AF 6 r) (AF 7 r) (rk r) (rf r) (rg r) (rh r) : va_W).map some
  | 0, _ => rfl
  | 1, _ => rfl
  | 2, _ => rfl
  | q + 3, h => absurd h (by omega)
set_option maxRecDepth 100000 in
set_option maxHeartbeats 8000000 in
theorem wL_repR {T : Nat → ClassId} {Ad : Nat → Nat} {AF : Nat → Nat → Nat} {ho ho1 : Nat → Int64} {D mny D1 m1 : Nat → Int32} {N f g : Nat → Nat → Int32} {rk rf rg rh : Nat → Nat → Int32} {I1 : Nat → Int32} {F : Nat → Nat → Int32} {k1 f1 g1 h1 : Nat → Int32} : ∀ {r : Nat}, r < 3 → gRep (wX T Ad AF ho D mny N f g rk rf rg rh ++ cM T (Ad 5) (AF 8) I1 F) [0, 1, 2, 3, 4, 53 + 5 * r, 54 + 5 * r, 55 + 5 * r, 56 + 5 * r, 57 + 5 * r] (([(Ad 0, .inl (T 4, 1, .inr (.inl ho1)))] : va_W) ++ cA T (Ad 1) (Ad 2) (Ad 3) (Ad 4) D1 m1 (AF 0) (AF 3) ++ cR T (AF 3 r) (AF 4 r) (AF 5 r) (AF 6 r) (AF 7 r) k1 f1 g1 h1) = (wX T Ad AF ho1 D1 m1 N f g (updA rk r k1) (updA rf r f1) (updA rg r g1) (updA rh r h1) ++ cM T (Ad 5) (AF 8) I1 F)
  | 0, _ => rfl
  | 1, _ => rfl
  | 2, _ => rfl
  | q + 3, h => absurd h (by omega)
set_option maxRecDepth 100000 in
set_option maxHeartbeats 8000000 in
theorem wL_cutNR {T : Nat → ClassId} {Ad : Nat → Nat} {AF : Nat → Nat → Nat} {ho ho1 : Nat → Int64} {D mny D1 m1 : Nat → Int32} {N f g : Nat → Nat → Int32} {rk rf rg rh : Nat → Nat → Int32} {I1 : Nat → Int32} {F : Nat → Nat → Int32} : ∀ {j : Nat}, j < 16 → ∀ {r : Nat}, r < 3 → [0, 1, 2, 3, 4, 5 + 3 * j, 6 + 3 * j, 7 + 3 * j, 53 + 5 * r, 54 + 5 * r, 55 + 5 * r, 56 + 5 * r, 57 + 5 * r].map (fun k => (wX T Ad AF ho D mny N f g rk rf rg rh ++ cM T (Ad 5) (AF 8) I1 F)[k]?) = (([(Ad 0, .inl (T 4, 1, .inr (.inl ho)))] : va_W) ++ cA T (Ad 1) (Ad 2) (Ad 3) (Ad 4) D mny (AF 0) (AF 3) ++ cN T (AF 0 j) (AF 1 j) (AF 2 j) (N j) (f j) (g j) ++ cR T (AF 3 r) (AF 4 r) (AF 5 r) (AF 6 r) (AF 7 r) (rk r) (rf r) (rg r) (rh r) : va_W).map some
  | 0, _, 0, _ => rfl
  | 0, _, 1, _ => rfl
  | 0, _, 2, _ => rfl
  | 1, _, 0, _ => rfl
  | 1, _, 1, _ => rfl
  | 1, _, 2, _ => rfl
  | 2, _, 0, _ => rfl
  | 2, _, 1, _ => rfl
  | 2, _, 2, _ => rfl
  | 3, _, 0, _ => rfl
  | 3, _, 1, _ => rfl
  | 3, _, 2, _ => rfl
  | 4, _, 0, _ => rfl
  | 4, _, 1, _ => rfl
  | 4, _, 2, _ => rfl
  | 5, _, 0, _ => rfl
  | 5, _, 1, _ => rfl
  | 5, _, 2, _ => rfl
  | 6, _, 0, _ => rfl
  | 6, _, 1, _ => rfl
  | 6, _, 2, _ => rfl
  | 7, _, 0, _ => rfl
  | 7, _, 1, _ => rfl
  | 7, _, 2, _ => rfl
  | 8, _, 0, _ => rfl
  | 8, _, 1, _ => rfl
  | 8, _, 2, _ => rfl
  | 9, _, 0, _ => rfl
  | 9, _, 1, _ => rfl
  | 9, _, 2, _ => rfl
  | 10, _, 0, _ => rfl
  | 10, _, 1, _ => rfl
  | 10, _, 2, _ => rfl
  | 11, _, 0, _ => rfl
  | 11, _, 1, _ => rfl
  | 11, _, 2, _ => rfl
  | 12, _, 0, _ => rfl
  | 12, _, 1, _ => rfl
  | 12, _, 2, _ => rfl
  | 13, _, 0, _ => rfl
  | 13, _, 1, _ => rfl
  | 13, _, 2, _ => rfl
  | 14, _, 0, _ => rfl
  | 14, _, 1, _ => rfl
  | 14, _, 2, _ => rfl
  | 15, _, 0, _ => rfl
  | 15, _, 1, _ => rfl
  | 15, _, 2, _ => rfl
  | _, _, q + 3, h => absurd h (by omega)
  | q + 16, h, _, _ => absurd h (by omega)
set_option maxRecDepth 100000 in
set_option maxHeartbeats 8000000 in
theorem wL_repNR {T : Nat → ClassId} {Ad : Nat → Nat} {AF : Nat → Nat → Nat} {ho ho1 : Nat → Int64} {D mny D1 m1 : Nat → Int32} {N f g : Nat → Nat → Int32} {rk rf rg rh : Nat → Nat → Int32} {I1 : Nat → Int32} {F : Nat → Nat → Int32} {N1 f1 g1 k1 p1 q1 h1 : Nat → Int32} : ∀ {j : Nat}, j < 16 → ∀ {r : Nat}, r < 3 → gRep (wX T Ad AF ho D mny N f g rk rf rg rh ++ cM T (Ad 5) (AF 8) I1 F) [0, 1, 2, 3, 4, 5 + 3 * j, 6 + 3 * j, 7 + 3 * j, 53 + 5 * r, 54 + 5 * r, 55 + 5 * r, 56 + 5 * r, 57 + 5 * r] (([(Ad 0, .inl (T 4, 1, .inr (.inl ho1)))] : va_W) ++ cA T (Ad 1) (Ad 2) (Ad 3) (Ad 4) D1 m1 (AF 0) (AF 3) ++ cN T (AF 0 j) (AF 1 j) (AF 2 j) N1 f1 g1 ++ cR T (AF 3 r) (AF 4 r) (AF 5 r) (AF 6 r) (AF 7 r) k1 p1 q1 h1) = (wX T Ad AF ho1 D1 m1 (updA N j N1) (updA f j f1) (updA g j g1) (updA rk r k1) (updA rf r p1) (updA rg r q1) (updA rh r h1) ++ cM T (Ad 5) (AF 8) I1 F)
  | 0, _, 0, _ => rfl
  | 0, _, 1, _ => rfl
  | 0, _, 2, _ => rfl
  | 1, _, 0, _ => rfl
  | 1, _, 1, _ => rfl
  | 1, _, 2, _ => rfl
  | 2, _, 0, _ => rfl
  | 2, _, 1, _ => rfl
  | 2, _, 2, _ => rfl
  | 3, _, 0, _ => rfl
  | 3, _, 1, _ => rfl
  | 3, _, 2, _ => rfl
  | 4, _, 0, _ => rfl
  | 4, _, 1, _ => rfl
  | 4, _, 2, _ => rfl
  | 5, _, 0, _ => rfl
  | 5, _, 1, _ => rfl
  | 5, _, 2, _ => rfl
  | 6, _, 0, _ => rfl
  | 6, _, 1, _ => rfl
  | 6, _, 2, _ => rfl
  | 7, _, 0, _ => rfl
  | 7, _, 1, _ => rfl
  | 7, _, 2, _ => rfl
  | 8, _, 0, _ => rfl
  | 8, _, 1, _ => rfl
  | 8, _, 2, _ => rfl
  | 9, _, 0, _ => rfl
  | 9, _, 1, _ => rfl
  | 9, _, 2, _ => rfl
  | 10, _, 0, _ => rfl
  | 10, _, 1, _ => rfl
  | 10, _, 2, _ => rfl
  | 11, _, 0, _ => rfl
  | 11, _, 1, _ => rfl
  | 11, _, 2, _ => rfl
  | 12, _, 0, _ => rfl
  | 12, _, 1, _ => rfl
  | 12, _, 2, _ => rfl
  | 13, _, 0, _ => rfl
  | 13, _, 1, _ => rfl
  | 13, _, 2, _ => rfl
  | 14, _, 0, _ => rfl
  | 14, _, 1, _ => rfl
  | 14, _, 2, _ => rfl
  | 15, _, 0, _ => rfl
  | 15, _, 1, _ => rfl
  | 15, _, 2, _ => rfl
  | _, _, q + 3, h => absurd h (by omega)
  | q + 16, h, _, _ => absurd h (by omega)
theorem wL_ndN {j : Nat} (h : j < 16) : va_nd [0, 1, 2, 3, 4, 5 + 3 * j, 6 + 3 * j, 7 + 3 * j] = true := by simp [va_nd]; omega
theorem wL_ndR {r : Nat} (h : r < 3) : va_nd [0, 1, 2, 3, 4, 53 + 5 * r, 54 + 5 * r, 55 + 5 * r, 56 + 5 * r, 57 + 5 * r] = true := by simp [va_nd]; omega
theorem wL_ndNR {j r : Nat} (h : j < 16) (h2 : r < 3) : va_nd [0, 1, 2, 3, 4, 5 + 3 * j, 6 + 3 * j, 7 + 3 * j, 53 + 5 * r, 54 + 5 * r, 55 + 5 * r, 56 + 5 * r, 57 + 5 * r] = true := by simp [va_nd]; omega
