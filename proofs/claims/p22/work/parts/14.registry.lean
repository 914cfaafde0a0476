/-! THE REGISTRY AS A WHOLE: how the cells of a call are cut out of it, and the calls of the class over all its cells -/
set_option maxRecDepth 100000 in
set_option maxHeartbeats 8000000 in
theorem wC_at {T : Nat → ClassId} {Ad : Nat → Nat} {AF : Nat → Nat → Nat} {D mny : Nat → Int32} {N f g : Nat → Nat → Int32} {rk rf rg rh : Nat → Nat → Int32} : (wC T Ad AF D mny N f g rk rf rg rh)[0]? = some (Ad 1, .inr (2, [.ref (Ad 2), .ref (Ad 3), .ref (Ad 4), .int (D 3), .int (D 4), .int (D 5)])) := rfl
set_option maxRecDepth 100000 in
set_option maxHeartbeats 8000000 in
theorem wC_fst {T : Nat → ClassId} {Ad : Nat → Nat} {AF : Nat → Nat → Nat} {D mny D1 m1 : Nat → Int32} {N f g : Nat → Nat → Int32} {rk rf rg rh : Nat → Nat → Int32} {N1 f1 g1 : Nat → Nat → Int32} {k1 f2 g2 h2 : Nat → Nat → Int32} : (wC T Ad AF D1 m1 N1 f1 g1 k1 f2 g2 h2).map Prod.fst = (wC T Ad AF D mny N f g rk rf rg rh).map Prod.fst := rfl
set_option maxRecDepth 100000 in
set_option maxHeartbeats 8000000 in
theorem wC_cutA {T : Nat → ClassId} {Ad : Nat → Nat} {AF : Nat → Nat → Nat} {D mny : Nat → Int32} {N f g : Nat → Nat → Int32} {rk rf rg rh : Nat → Nat → Int32} : [0, 1, 2, 3].map (fun k => (wC T Ad AF D mny N f g rk rf rg rh)[k]?) = (cA T (Ad 1) (Ad 2) (Ad 3) (Ad 4) D mny (AF 0) (AF 3) : va_W).map some := rfl
set_option maxRecDepth 100000 in
set_option maxHeartbeats 8000000 in
theorem wC_repA {T : Nat → ClassId} {Ad : Nat → Nat} {AF : Nat → Nat → Nat} {D mny D1 m1 : Nat → Int32} {N f g : Nat → Nat → Int32} {rk rf rg rh : Nat → Nat → Int32} : gRep (wC T Ad AF D mny N f g rk rf rg rh) [0, 1, 2, 3] (cA T (Ad 1) (Ad 2) (Ad 3) (Ad 4) D1 m1 (AF 0) (AF 3)) = wC T Ad AF D1 m1 N f g rk rf rg rh := rfl
set_option maxRecDepth 100000 in
set_option maxHeartbeats 8000000 in
theorem wC_cutN {T : Nat → ClassId} {Ad : Nat → Nat} {AF : Nat → Nat → Nat} {D mny : Nat → Int32} {N f g : Nat → Nat → Int32} {rk rf rg rh : Nat → Nat → Int32}  : ∀ {j : Nat}, j < 16 → [0, 1, 2, 3, 4 + 3 * j, 5 + 3 * j, 6 + 3 * j].map (fun k => (wC T Ad AF D mny N f g rk rf rg rh)[k]?) = (cA T (Ad 1) (Ad 2) (Ad 3) (Ad 4) D mny (AF 0) (AF 3) ++ cN T (AF 0 j) (AF 1 j) (AF 2 j) (N j) (f j) (g j) : va_W).map some
  | 0, _ => rfl
  | 1, _ => rfl
  | 2, _ => rfl
  | 3, _ => rfl
  | 4, _ => rfl
  | 5, _ => rfl
  | 6, _ => rfl
  | 7, _ => rfl
  | 8, _ => rfl
  | 9, _ => rfl
  | 10, _ => rfl
  | 11, _ => rfl
  | 12, _ => rfl
  | 13, _ => rfl
  | 14, _ => rfl
  | 15, _ => rfl
  | q + 16, h => absurd h (by omega)
set_option maxRecDepth 100000 in
set_option maxHeartbeats 8000000 in
theorem wC_repN {T : Nat → ClassId} {Ad : Nat → Nat} {AF : Nat → Nat → Nat} {D mny D1 m1 : Nat → Int32} {N f g : Nat → Nat → Int32} {rk rf rg rh : Nat → Nat → Int32} {N1 f1 g1 : Nat → Int32} : ∀ {j : Nat}, j < 16 → gRep (wC T Ad AF D mny N f g rk rf rg rh) [0, 1, 2, 3, 4 + 3 * j, 5 + 3 * j, 6 + 3 * j] (cA T (Ad 1) (Ad 2) (Ad 3) (Ad 4) D1 m1 (AF 0) (AF 3) ++ cN T (AF 0 j) (AF 1 j) (AF 2 j) N1 f1 g1) = wC T Ad AF D1 m1 (updA N j N1) (updA f j f1) (updA g j g1) rk rf rg rh
  | 0, _ => rfl
  | 1, _ => rfl
  | 2, _ => rfl
  | 3, _ => rfl
  | 4, _ => rfl
  | 5, _ => rfl
  | 6, _ => rfl
  | 7, _ => rfl
  | 8, _ => rfl
  | 9, _ => rfl
  | 10, _ => rfl
  | 11, _ => rfl
  | 12, _ => rfl
  | 13, _ => rfl
  | 14, _ => rfl
  | 15, _ => rfl
  | q + 16, h => absurd h (by omega)
set_option maxRecDepth 100000 in
set_option maxHeartbeats 8000000 in
theorem wC_cutR {T : Nat → ClassId} {Ad : Nat → Nat} {AF : Nat → Nat → Nat} {D mny : Nat → Int32} {N f g : Nat → Nat → Int32} {rk rf rg rh : Nat → Nat → Int32} : [0, 1, 2, 3, 52, 53, 54, 55, 56].map (fun k => (wC T Ad AF D mny N f g rk rf rg rh)[k]?) = (cA T (Ad 1) (Ad 2) (Ad 3) (Ad 4) D mny (AF 0) (AF 3) ++ cR T (AF 3 0) (AF 4 0) (AF 5 0) (AF 6 0) (AF 7 0) (rk 0) (rf 0) (rg 0) (rh 0) : va_W).map some := rfl
set_option maxRecDepth 100000 in
set_option maxHeartbeats 8000000 in
theorem wC_repR {T : Nat → ClassId} {Ad : Nat → Nat} {AF : Nat → Nat → Nat} {D mny D1 m1 : Nat → Int32} {N f g : Nat → Nat → Int32} {rk rf rg rh : Nat → Nat → Int32} {k1 f2 g2 h2 : Nat → Int32} : gRep (wC T Ad AF D mny N f g rk rf rg rh) [0, 1, 2, 3, 52, 53, 54, 55, 56] (cA T (Ad 1) (Ad 2) (Ad 3) (Ad 4) D1 m1 (AF 0) (AF 3) ++ cR T (AF 3 0) (AF 4 0) (AF 5 0) (AF 6 0) (AF 7 0) k1 f2 g2 h2) = wC T Ad AF D1 m1 N f g (updA rk 0 k1) (updA rf 0 f2) (updA rg 0 g2) (updA rh 0 h2) := rfl
set_option maxRecDepth 100000 in
set_option maxHeartbeats 8000000 in
theorem wC_cutNR {T : Nat → ClassId} {Ad : Nat → Nat} {AF : Nat → Nat → Nat} {D mny : Nat → Int32} {N f g : Nat → Nat → Int32} {rk rf rg rh : Nat → Nat → Int32}  : ∀ {j : Nat}, j < 16 → [0, 1, 2, 3, 4 + 3 * j, 5 + 3 * j, 6 + 3 * j, 52, 53, 54, 55, 56].map (fun k => (wC T Ad AF D mny N f g rk rf rg rh)[k]?) = (cA T (Ad 1) (Ad 2) (Ad 3) (Ad 4) D mny (AF 0) (AF 3) ++ cN T (AF 0 j) (AF 1 j) (AF 2 j) (N j) (f j) (g j) ++ cR T (AF 3 0) (AF 4 0) (AF 5 0) (AF 6 0) (AF 7 0) (rk 0) (rf 0) (rg 0) (rh 0) : va_W).map some
  | 0, _ => rfl
  | 1, _ => rfl
  | 2, _ => rfl
  | 3, _ => rfl
  | 4, _ => rfl
  | 5, _ => rfl
  | 6, _ => rfl
  | 7, _ => rfl
  | 8, _ => rfl
  | 9, _ => rfl
  | 10, _ => rfl
  | 11, _ => rfl
  | 12, _ => rfl
  | 13, _ => rfl
  | 14, _ => rfl
  | 15, _ => rfl
  | q + 16, h => absurd h (by omega)
set_option maxRecDepth 100000 in
set_option maxHeartbeats 8000000 in
theorem wC_repNR {T : Nat → ClassId} {Ad : Nat → Nat} {AF : Nat → Nat → Nat} {D mny D1 m1 : Nat → Int32} {N f g : Nat → Nat → Int32} {rk rf rg rh : Nat → Nat → Int32} {N1 f1 g1 : Nat → Int32} {k1 f2 g2 h2 : Nat → Int32} : ∀ {j : Nat}, j < 16 → gRep (wC T Ad AF D mny N f g rk rf rg rh) [0, 1, 2, 3, 4 + 3 * j, 5 + 3 * j, 6 + 3 * j, 52, 53, 54, 55, 56] (cA T (Ad 1) (Ad 2) (Ad 3) (Ad 4) D1 m1 (AF 0) (AF 3) ++ cN T (AF 0 j) (AF 1 j) (AF 2 j) N1 f1 g1 ++ cR T (AF 3 0) (AF 4 0) (AF 5 0) (AF 6 0) (AF 7 0) k1 f2 g2 h2) = wC T Ad AF D1 m1 (updA N j N1) (updA f j f1) (updA g j g1) (updA rk 0 k1) (updA rf 0 f2) (updA rg 0 g2) (updA rh 0 h2)
  | 0, _ => rfl
  | 1, _ => rfl
  | 2, _ => rfl
  | 3, _ => rfl
  | 4, _ => rfl
  | 5, _ => rfl
  | 6, _ => rfl
  | 7, _ => rfl
  | 8, _ => rfl
  | 9, _ => rfl
  | 10, _ => rfl
  | 11, _ => rfl
  | 12, _ => rfl
  | 13, _ => rfl
  | 14, _ => rfl
  | 15, _ => rfl
  | q + 16, h => absurd h (by omega)
theorem wC_ndNR (j : Nat) (h : j < 16) : va_nd [0, 1, 2, 3, 4 + 3 * j, 5 + 3 * j, 6 + 3 * j, 52, 53, 54, 55, 56] = true := by simp [va_nd]; omega
theorem wC_app {T : Nat → ClassId} {Ad : Nat → Nat} {AF : Nat → Nat → Nat} {D mny : Nat → Int32} {N f g : Nat → Nat → Int32} {rk rf rg rh : Nat → Nat → Int32} : wC T Ad AF D mny N f g rk rf rg rh = (cA T (Ad 1) (Ad 2) (Ad 3) (Ad 4) D mny (AF 0) (AF 3) ++ cNs T (AF 0) (AF 1) (AF 2) N f g) ++ cRs T (AF 3) (AF 4) (AF 5) (AF 6) (AF 7) rk rf rg rh := (List.append_assoc _ _ _).symm
