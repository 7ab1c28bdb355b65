-- ===== facts of the tables
theorem xcl : ∀ ci : Nat, ci < 13 → vwCl[ci]? = some (xRn ci, xT ci, xN ci) := fun ci h => match ci, h with
  | 0, _ => rfl
  | 1, _ => rfl
  | 2, _ => rfl
  | 3, _ => rfl
  | 4, _ => rfl
  | 5, _ => rfl
  | 6, _ => rfl
  | 7, _ => rfl
  | 8, _ => rfl
  | 9, _ => rfl
  | 10, _ => rfl
  | 11, _ => rfl
  | 12, _ => rfl
  | n + 13, h => absurd h (by omega)
theorem xinU : ∀ ci : Nat, ci < 13 → ∀ w ∈ u_ws (xRn ci) (xT ci) (xN ci), w ∈ xU := fun ci h => match ci, h with
  | 0, _ => xin0
  | 1, _ => xin1
  | 2, _ => xin2
  | 3, _ => xin3
  | 4, _ => xin4
  | 5, _ => xin5
  | 6, _ => xin6
  | 7, _ => xin7
  | 8, _ => xin8
  | 9, _ => xin9
  | 10, _ => xin10
  | 11, _ => xin11
  | 12, _ => xin12
  | n + 13, h => absurd h (by omega)
theorem xtyok : ∀ ci : Nat, ci < 13 → ∀ k, k < xN ci → parseFieldDescriptor (xT ci k).2.2.1 = some (xty ci k) := fun ci h => match ci, h with
  | 0, _ => tyX0_ok
  | 1, _ => tyX1_ok
  | 2, _ => tyX2_ok
  | 3, _ => tyX3_ok
  | 4, _ => tyX4_ok
  | 5, _ => tyX5_ok
  | 6, _ => tyX6_ok
  | 7, _ => tyX7_ok
  | 8, _ => tyX8_ok
  | 9, _ => tyX9_ok
  | 10, _ => tyX10_ok
  | 11, _ => tyX11_ok
  | 12, _ => tyX12_ok
  | n + 13, h => absurd h (by omega)
theorem xnmok : ∀ ci : Nat, ci < 13 → ∀ a, a < xN ci → ∀ b, b < xN ci → a ≠ b → (xT ci a).2.1 ≠ (xT ci b).2.1 := fun ci h => match ci, h with
  | 0, _ => nmX0
  | 1, _ => nmX1
  | 2, _ => nmX2
  | 3, _ => nmX3
  | 4, _ => nmX4
  | 5, _ => nmX5
  | 6, _ => nmX6
  | 7, _ => nmX7
  | 8, _ => nmX8
  | 9, _ => nmX9
  | 10, _ => nmX10
  | 11, _ => nmX11
  | 12, _ => nmX12
  | n + 13, h => absurd h (by omega)
theorem xdfok (r : Nat → Value) (ad : Nat → Nat) : ∀ ci : Nat, ci < 13 → ∀ j, j < xN ci → defaultValue (xty ci j) = vp_V ((xdf ci).map (xdv r ad)) j := fun ci h => match ci, h with
  | 0, _ => (fun j hj => match j, hj with
    | 0, _ => rfl
    | 1, _ => rfl
    | 2, _ => rfl
    | 3, _ => rfl
    | 4, _ => rfl
    | 5, _ => rfl
    | 6, _ => rfl
    | 7, _ => rfl
    | j + 8, hj => absurd hj (by show ¬ j + 8 < 8; omega))
  | 1, _ => (fun j hj => match j, hj with
    | 0, _ => rfl
    | 1, _ => rfl
    | 2, _ => rfl
    | j + 3, hj => absurd hj (by show ¬ j + 3 < 3; omega))
  | 2, _ => (fun j hj => match j, hj with
    | 0, _ => rfl
    | 1, _ => rfl
    | 2, _ => rfl
    | j + 3, hj => absurd hj (by show ¬ j + 3 < 3; omega))
  | 3, _ => (fun j hj => match j, hj with
    | 0, _ => rfl
    | 1, _ => rfl
    | 2, _ => rfl
    | j + 3, hj => absurd hj (by show ¬ j + 3 < 3; omega))
  | 4, _ => (fun j hj => match j, hj with
    | 0, _ => rfl
    | 1, _ => rfl
    | 2, _ => rfl
    | 3, _ => rfl
    | j + 4, hj => absurd hj (by show ¬ j + 4 < 4; omega))
  | 5, _ => (fun j hj => match j, hj with
    | 0, _ => rfl
    | 1, _ => rfl
    | 2, _ => rfl
    | j + 3, hj => absurd hj (by show ¬ j + 3 < 3; omega))
  | 6, _ => (fun j hj => match j, hj with
    | 0, _ => rfl
    | 1, _ => rfl
    | j + 2, hj => absurd hj (by show ¬ j + 2 < 2; omega))
  | 7, _ => (fun j hj => match j, hj with
    | 0, _ => rfl
    | 1, _ => rfl
    | 2, _ => rfl
    | j + 3, hj => absurd hj (by show ¬ j + 3 < 3; omega))
  | 8, _ => (fun j hj => match j, hj with
    | 0, _ => rfl
    | 1, _ => rfl
    | 2, _ => rfl
    | 3, _ => rfl
    | 4, _ => rfl
    | j + 5, hj => absurd hj (by show ¬ j + 5 < 5; omega))
  | 9, _ => (fun j hj => match j, hj with
    | 0, _ => rfl
    | 1, _ => rfl
    | j + 2, hj => absurd hj (by show ¬ j + 2 < 2; omega))
  | 10, _ => (fun j hj => match j, hj with
    | 0, _ => rfl
    | 1, _ => rfl
    | 2, _ => rfl
    | 3, _ => rfl
    | 4, _ => rfl
    | 5, _ => rfl
    | 6, _ => rfl
    | 7, _ => rfl
    | 8, _ => rfl
    | 9, _ => rfl
    | 10, _ => rfl
    | 11, _ => rfl
    | 12, _ => rfl
    | 13, _ => rfl
    | 14, _ => rfl
    | j + 15, hj => absurd hj (by show ¬ j + 15 < 15; omega))
  | 11, _ => (fun j hj => match j, hj with
    | 0, _ => rfl
    | 1, _ => rfl
    | 2, _ => rfl
    | 3, _ => rfl
    | 4, _ => rfl
    | 5, _ => rfl
    | 6, _ => rfl
    | 7, _ => rfl
    | 8, _ => rfl
    | 9, _ => rfl
    | 10, _ => rfl
    | 11, _ => rfl
    | 12, _ => rfl
    | 13, _ => rfl
    | 14, _ => rfl
    | j + 15, hj => absurd hj (by show ¬ j + 15 < 15; omega))
  | 12, _ => (fun j hj => match j, hj with
    | 0, _ => rfl
    | 1, _ => rfl
    | 2, _ => rfl
    | 3, _ => rfl
    | 4, _ => rfl
    | 5, _ => rfl
    | 6, _ => rfl
    | 7, _ => rfl
    | 8, _ => rfl
    | 9, _ => rfl
    | 10, _ => rfl
    | 11, _ => rfl
    | 12, _ => rfl
    | 13, _ => rfl
    | 14, _ => rfl
    | 15, _ => rfl
    | 16, _ => rfl
    | 17, _ => rfl
    | 18, _ => rfl
    | 19, _ => rfl
    | 20, _ => rfl
    | 21, _ => rfl
    | 22, _ => rfl
    | 23, _ => rfl
    | 24, _ => rfl
    | 25, _ => rfl
    | j + 26, hj => absurd hj (by show ¬ j + 26 < 26; omega))
  | n + 13, h => absurd h (by omega)
theorem xdflen : ∀ ci : Nat, ci < 13 → (xdf ci).length = xN ci := fun ci h => match ci, h with
  | 0, _ => rfl
  | 1, _ => rfl
  | 2, _ => rfl
  | 3, _ => rfl
  | 4, _ => rfl
  | 5, _ => rfl
  | 6, _ => rfl
  | 7, _ => rfl
  | 8, _ => rfl
  | 9, _ => rfl
  | 10, _ => rfl
  | 11, _ => rfl
  | 12, _ => rfl
  | n + 13, h => absurd h (by omega)
theorem xgood : xU.all goodWord = true := List.all_eq_true.mpr (fun w h => (List.mem_filter.mp h).2)

