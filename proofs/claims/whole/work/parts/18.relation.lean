/-! THE CLASS'S MEANING AGAINST THE REFERENCE'S: what holds between them after n calls -/
/-- one name: N its ints, f its amounts, g its turns; c the bids made so far -/
def RN (c : Nat) (N f g : Nat → Int32) (F : Nat → Nat → Int32) (i : Nat) : Prop :=
  (N 0 = F 3 i ∧ N 1 = F 4 i ∧ N 4 = F 6 i ∧ N 5 = F 7 i ∧ N 6 = F 10 i ∧ N 7 = F 8 i ∧ N 8 = F 9 i) ∧
  (∃ s : Nat, s < 6 ∧ N 0 = nI s) ∧
  (N 0 = 1 → N 2 = F 5 i) ∧ (N 0 = 2 ∨ N 0 = 3 ∨ N 0 = 4 ∨ (N 0 = 5 ∧ ¬ N 6 = 1) → N 3 = F 5 i) ∧
  (N 0 = 5 → N 6 = 1 ∨ N 6 = 2 ∨ N 6 = 3) ∧
  (N 0 = 0 ∨ N 0 = 1 ∨ (N 0 = 5 ∧ N 6 = 1) → N 1 = -1) ∧
  (N 0 = 2 ∨ N 0 = 3 ∨ N 0 = 4 ∨ (N 0 = 5 ∧ ¬ N 6 = 1) → ∃ o : Nat, o < 6 ∧ N 1 = nI o) ∧
  (N 0 = 5 → ∃ o : Nat, o < 6 ∧ N 7 = nI o) ∧
  (∀ k, k < 6 → F 11 (6 * i + k) = f k) ∧
  (∀ k, k < 6 → ¬ N 0 = 1 → f k = 0) ∧
  (∀ k, k < 6 → f k = 0 ∨ (¬ f k < 10 ∧ 0 < f k ∧ ∃ d : Nat, d < c ∧ F 12 (6 * i + k) = nI d ∧ g k = nI (d + 1)))
/-- one resolver's place for a name -/
def RV (t : Nat) (k f g h : Nat → Int32) (F : Nat → Nat → Int32) (r j : Nat) : Prop :=
  (k j = 0 ∧ F 14 (16 * r + j) = -1) ∨ (k j = 1 ∧ F 15 (16 * r + j) = f j ∧ F 16 (16 * r + j) = g j ∧ F 14 (16 * r + j) = h j ∧ ∃ d : Nat, d ≤ t ∧ h j = nI d)
def REL (n : Nat) (D mny : Nat → Int32) (N f g : Nat → Nat → Int32) (rk rf rg rh : Nat → Nat → Int32) (I1 : Nat → Int32) (F : Nat → Nat → Int32) : Prop :=
  ∃ t c : Nat, t ≤ 200 * n ∧ c ≤ n ∧ D 3 = nI t ∧ I1 0 = nI t ∧ I1 1 = D 4 ∧ D 5 = nI c ∧ I1 13 = nI c ∧
    (∀ k, k < 6 → F 2 k = mny k) ∧ (∀ i, i < 16 → RN c (N i) (f i) (g i) F i) ∧ (∀ r, r < 3 → ∀ j, j < 16 → RV t (rk r) (rf r) (rg r) (rh r) F r j)
theorem REL_0 : REL 0 (fun _ => 0) (fun _ => 0) (fun _ => nI0) (fun _ _ => 0) (fun _ _ => 0) (fun _ _ => 0) (fun _ _ => 0) (fun _ _ => 0) (fun _ _ => 0) (fun _ => 0) mF0 := by
  refine ⟨0, 0, by omega, by omega, rfl, rfl, rfl, rfl, rfl, fun k _ => rfl, fun i hi => ?_, fun r hr j hj => Or.inl ⟨rfl, rfl⟩⟩
  refine ⟨⟨rfl, rfl, rfl, rfl, rfl, rfl, rfl⟩, ⟨0, by omega, rfl⟩, ?_, ?_, ?_, fun _ => rfl, ?_, ?_, fun k _ => rfl, fun k _ _ => rfl, fun k _ => Or.inl rfl⟩
  · intro h; exact absurd (show (0 : Int32) = 1 from h) (by decide)
  · rintro (h | h | h | ⟨h, -⟩)
    · exact absurd (show (0 : Int32) = 2 from h) (by decide)
    · exact absurd (show (0 : Int32) = 3 from h) (by decide)
    · exact absurd (show (0 : Int32) = 4 from h) (by decide)
    · exact absurd (show (0 : Int32) = 5 from h) (by decide)
  · intro h; exact absurd (show (0 : Int32) = 5 from h) (by decide)
  · rintro (h | h | h | ⟨h, -⟩)
    · exact absurd (show (0 : Int32) = 2 from h) (by decide)
    · exact absurd (show (0 : Int32) = 3 from h) (by decide)
    · exact absurd (show (0 : Int32) = 4 from h) (by decide)
    · exact absurd (show (0 : Int32) = 5 from h) (by decide)
  · intro h; exact absurd (show (0 : Int32) = 5 from h) (by decide)
