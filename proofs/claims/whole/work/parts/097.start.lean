def n_pi : List Nat := [0, 1, 2, 3, 4, 5, 6, 7, 8, 9, 10, 11, 12, 13, 14, 15, 16, 17, 18, 19, 20, 21, 22, 23, 56, 57, 58, 59, 60, 61, 62, 63, 64, 65, 66, 67, 68, 69, 70, 71, 72, 73, 74, 75, 76, 77, 78, 79, 80, 81, 82, 83, 84, 85, 86, 87, 88, 89, 90, 91, 92, 93, 24, 25, 26, 27, 28, 29, 30, 31, 32, 33, 34, 35, 36, 37, 38, 39, 40, 41, 42, 43, 44, 45, 46, 47, 48, 49, 50, 51, 52, 53, 54, 55, 94, 95, 96, 97, 98, 99, 100, 101, 102, 103]
def n_ad (ad t : Nat → Nat) : Nat → Nat := fun c => if c < 104 then ad (n_pi.getD c 0) else t c
def a_S0 : aSt := ((fun _ _ => 0, fun _ _ => 0, fun _ => 0), fun _ _ => 0)
theorem n_arrV {cA : ClassId} {N : Nat} {f g : Nat → Value} (h : ∀ j, j < N → f j = g j) : arrV cA N f = arrV cA N g := by
  unfold arrV
  congr 1
  apply Array.ext
  · simp
  · intro i h1 h2
    simp at h1
    simp [h i h1]
set_option maxRecDepth 100000 in
theorem n_cc_0 {D : va_G} {kA : Nat → ClassId} {ad t : Nat → Nat} {H : Heap} {q : Nat} (h : va_at D vwCl (q, n_cv kA ad (nw_205.getD 0 (.inl (0, 0)))) H) : va_at D vwCl (q, a_mk kA (n_ad ad t) 0 (a_row a_S0 0)) H := h
set_option maxRecDepth 100000 in
theorem n_cc_1 {D : va_G} {kA : Nat → ClassId} {ad t : Nat → Nat} {H : Heap} {q : Nat} (h : va_at D vwCl (q, n_cv kA ad (nw_205.getD 1 (.inl (0, 0)))) H) : va_at D vwCl (q, a_mk kA (n_ad ad t) 1 (a_row a_S0 1)) H := h
set_option maxRecDepth 100000 in
theorem n_cc_2 {D : va_G} {kA : Nat → ClassId} {ad t : Nat → Nat} {H : Heap} {q : Nat} (h : va_at D vwCl (q, n_cv kA ad (nw_205.getD 2 (.inl (0, 0)))) H) : va_at D vwCl (q, a_mk kA (n_ad ad t) 2 (a_row a_S0 2)) H := h
set_option maxRecDepth 100000 in
theorem n_cc_3 {D : va_G} {kA : Nat → ClassId} {ad t : Nat → Nat} {H : Heap} {q : Nat} (h : va_at D vwCl (q, n_cv kA ad (nw_205.getD 3 (.inl (0, 0)))) H) : va_at D vwCl (q, a_mk kA (n_ad ad t) 3 (a_row a_S0 3)) H := by
  have e : vp_cell (kA 3) (10, .inr (.inr (.inr (.inr (fun j => (([some 56, some 59, some 62, some 65, some 68, some 71, some 74, some 77, some 80, some 83] : List (Option Nat)).getD j none).map ad))))) = vp_cell (kA 3) (10, .inr (.inr (.inr (.inr (fun j => some ((n_ad ad t) (24 + 3 * j))))))) := by
    rw [vp_cell_q, vp_cell_q]
    apply n_arrV
    intro j hj
    match j, hj with
    | 0, _ => rfl
    | 1, _ => rfl
    | 2, _ => rfl
    | 3, _ => rfl
    | 4, _ => rfl
    | 5, _ => rfl
    | 6, _ => rfl
    | 7, _ => rfl
    | 8, _ => rfl
    | 9, _ => rfl
    | j + 10, hj => exact absurd hj (by omega)
  exact Eq.trans (show H[q]? = some (vp_cell (kA 3) (10, .inr (.inr (.inr (.inr (fun j => (([some 56, some 59, some 62, some 65, some 68, some 71, some 74, some 77, some 80, some 83] : List (Option Nat)).getD j none).map ad)))))) from h) (congrArg some e)
set_option maxRecDepth 100000 in
theorem n_cc_4 {D : va_G} {kA : Nat → ClassId} {ad t : Nat → Nat} {H : Heap} {q : Nat} (h : va_at D vwCl (q, n_cv kA ad (nw_205.getD 4 (.inl (0, 0)))) H) : va_at D vwCl (q, a_mk kA (n_ad ad t) 4 (a_row a_S0 4)) H := h
set_option maxRecDepth 100000 in
theorem n_cc_5 {D : va_G} {kA : Nat → ClassId} {ad t : Nat → Nat} {H : Heap} {q : Nat} (h : va_at D vwCl (q, n_cv kA ad (nw_205.getD 5 (.inl (0, 0)))) H) : va_at D vwCl (q, a_mk kA (n_ad ad t) 5 (a_row a_S0 5)) H := h
set_option maxRecDepth 100000 in
theorem n_cc_6 {D : va_G} {kA : Nat → ClassId} {ad t : Nat → Nat} {H : Heap} {q : Nat} (h : va_at D vwCl (q, n_cv kA ad (nw_205.getD 6 (.inl (0, 0)))) H) : va_at D vwCl (q, a_mk kA (n_ad ad t) 6 (a_row a_S0 6)) H := h
set_option maxRecDepth 100000 in
theorem n_cc_7 {D : va_G} {kA : Nat → ClassId} {ad t : Nat → Nat} {H : Heap} {q : Nat} (h : va_at D vwCl (q, n_cv kA ad (nw_205.getD 7 (.inl (0, 0)))) H) : va_at D vwCl (q, a_mk kA (n_ad ad t) 7 (a_row a_S0 7)) H := h
set_option maxRecDepth 100000 in
theorem n_cc_8 {D : va_G} {kA : Nat → ClassId} {ad t : Nat → Nat} {H : Heap} {q : Nat} (h : va_at D vwCl (q, n_cv kA ad (nw_205.getD 8 (.inl (0, 0)))) H) : va_at D vwCl (q, a_mk kA (n_ad ad t) 8 (a_row a_S0 8)) H := h
set_option maxRecDepth 100000 in
theorem n_cc_9 {D : va_G} {kA : Nat → ClassId} {ad t : Nat → Nat} {H : Heap} {q : Nat} (h : va_at D vwCl (q, n_cv kA ad (nw_205.getD 9 (.inl (0, 0)))) H) : va_at D vwCl (q, a_mk kA (n_ad ad t) 9 (a_row a_S0 9)) H := h
set_option maxRecDepth 100000 in
theorem n_cc_10 {D : va_G} {kA : Nat → ClassId} {ad t : Nat → Nat} {H : Heap} {q : Nat} (h : va_at D vwCl (q, n_cv kA ad (nw_205.getD 10 (.inl (0, 0)))) H) : va_at D vwCl (q, a_mk kA (n_ad ad t) 10 (a_row a_S0 10)) H := h
set_option maxRecDepth 100000 in
theorem n_cc_11 {D : va_G} {kA : Nat → ClassId} {ad t : Nat → Nat} {H : Heap} {q : Nat} (h : va_at D vwCl (q, n_cv kA ad (nw_205.getD 11 (.inl (0, 0)))) H) : va_at D vwCl (q, a_mk kA (n_ad ad t) 11 (a_row a_S0 11)) H := h
set_option maxRecDepth 100000 in
theorem n_cc_12 {D : va_G} {kA : Nat → ClassId} {ad t : Nat → Nat} {H : Heap} {q : Nat} (h : va_at D vwCl (q, n_cv kA ad (nw_205.getD 12 (.inl (0, 0)))) H) : va_at D vwCl (q, a_mk kA (n_ad ad t) 12 (a_row a_S0 12)) H := h
set_option maxRecDepth 100000 in
theorem n_cc_13 {D : va_G} {kA : Nat → ClassId} {ad t : Nat → Nat} {H : Heap} {q : Nat} (h : va_at D vwCl (q, n_cv kA ad (nw_205.getD 13 (.inl (0, 0)))) H) : va_at D vwCl (q, a_mk kA (n_ad ad t) 13 (a_row a_S0 13)) H := h
set_option maxRecDepth 100000 in
theorem n_cc_14 {D : va_G} {kA : Nat → ClassId} {ad t : Nat → Nat} {H : Heap} {q : Nat} (h : va_at D vwCl (q, n_cv kA ad (nw_205.getD 14 (.inl (0, 0)))) H) : va_at D vwCl (q, a_mk kA (n_ad ad t) 14 (a_row a_S0 14)) H := h
set_option maxRecDepth 100000 in
theorem n_cc_15 {D : va_G} {kA : Nat → ClassId} {ad t : Nat → Nat} {H : Heap} {q : Nat} (h : va_at D vwCl (q, n_cv kA ad (nw_205.getD 15 (.inl (0, 0)))) H) : va_at D vwCl (q, a_mk kA (n_ad ad t) 15 (a_row a_S0 15)) H := h
set_option maxRecDepth 100000 in
theorem n_cc_16 {D : va_G} {kA : Nat → ClassId} {ad t : Nat → Nat} {H : Heap} {q : Nat} (h : va_at D vwCl (q, n_cv kA ad (nw_205.getD 16 (.inl (0, 0)))) H) : va_at D vwCl (q, a_mk kA (n_ad ad t) 16 (a_row a_S0 16)) H := h
set_option maxRecDepth 100000 in
theorem n_cc_17 {D : va_G} {kA : Nat → ClassId} {ad t : Nat → Nat} {H : Heap} {q : Nat} (h : va_at D vwCl (q, n_cv kA ad (nw_205.getD 17 (.inl (0, 0)))) H) : va_at D vwCl (q, a_mk kA (n_ad ad t) 17 (a_row a_S0 17)) H := h
set_option maxRecDepth 100000 in
theorem n_cc_18 {D : va_G} {kA : Nat → ClassId} {ad t : Nat → Nat} {H : Heap} {q : Nat} (h : va_at D vwCl (q, n_cv kA ad (nw_205.getD 18 (.inl (0, 0)))) H) : va_at D vwCl (q, a_mk kA (n_ad ad t) 18 (a_row a_S0 18)) H := h
set_option maxRecDepth 100000 in
theorem n_cc_19 {D : va_G} {kA : Nat → ClassId} {ad t : Nat → Nat} {H : Heap} {q : Nat} (h : va_at D vwCl (q, n_cv kA ad (nw_205.getD 19 (.inl (0, 0)))) H) : va_at D vwCl (q, a_mk kA (n_ad ad t) 19 (a_row a_S0 19)) H := h
set_option maxRecDepth 100000 in
theorem n_cc_20 {D : va_G} {kA : Nat → ClassId} {ad t : Nat → Nat} {H : Heap} {q : Nat} (h : va_at D vwCl (q, n_cv kA ad (nw_205.getD 20 (.inl (0, 0)))) H) : va_at D vwCl (q, a_mk kA (n_ad ad t) 20 (a_row a_S0 20)) H := h
set_option maxRecDepth 100000 in
theorem n_cc_21 {D : va_G} {kA : Nat → ClassId} {ad t : Nat → Nat} {H : Heap} {q : Nat} (h : va_at D vwCl (q, n_cv kA ad (nw_205.getD 21 (.inl (0, 0)))) H) : va_at D vwCl (q, a_mk kA (n_ad ad t) 21 (a_row a_S0 21)) H := by
  have e : vp_cell (kA 4) (4, .inr (.inr (.inr (.inr (fun j => (([some 86, some 88, some 90, some 92] : List (Option Nat)).getD j none).map ad))))) = vp_cell (kA 4) (4, .inr (.inr (.inr (.inr (fun j => some ((n_ad ad t) (54 + 2 * j))))))) := by
    rw [vp_cell_q, vp_cell_q]
    apply n_arrV
    intro j hj
    match j, hj with
    | 0, _ => rfl
    | 1, _ => rfl
    | 2, _ => rfl
    | 3, _ => rfl
    | j + 4, hj => exact absurd hj (by omega)
  exact Eq.trans (show H[q]? = some (vp_cell (kA 4) (4, .inr (.inr (.inr (.inr (fun j => (([some 86, some 88, some 90, some 92] : List (Option Nat)).getD j none).map ad)))))) from h) (congrArg some e)
set_option maxRecDepth 100000 in
theorem n_cc_22 {D : va_G} {kA : Nat → ClassId} {ad t : Nat → Nat} {H : Heap} {q : Nat} (h : va_at D vwCl (q, n_cv kA ad (nw_205.getD 22 (.inl (0, 0)))) H) : va_at D vwCl (q, a_mk kA (n_ad ad t) 22 (a_row a_S0 22)) H := h
set_option maxRecDepth 100000 in
theorem n_cc_23 {D : va_G} {kA : Nat → ClassId} {ad t : Nat → Nat} {H : Heap} {q : Nat} (h : va_at D vwCl (q, n_cv kA ad (nw_205.getD 23 (.inl (0, 0)))) H) : va_at D vwCl (q, a_mk kA (n_ad ad t) 23 (a_row a_S0 23)) H := by
  have e : vp_cell (kA 5) (16, .inr (.inr (.inr (.inr (fun j => (([some 24, some 26, some 28, some 30, some 32, some 34, some 36, some 38, some 40, some 42, some 44, some 46, some 48, some 50, some 52, some 54] : List (Option Nat)).getD j none).map ad))))) = vp_cell (kA 5) (16, .inr (.inr (.inr (.inr (fun j => some ((n_ad ad t) (62 + 2 * j))))))) := by
    rw [vp_cell_q, vp_cell_q]
    apply n_arrV
    intro j hj
    match j, hj with
    | 0, _ => rfl
    | 1, _ => rfl
    | 2, _ => rfl
    | 3, _ => rfl
    | 4, _ => rfl
    | 5, _ => rfl
    | 6, _ => rfl
    | 7, _ => rfl
    | 8, _ => rfl
    | 9, _ => rfl
    | 10, _ => rfl
    | 11, _ => rfl
    | 12, _ => rfl
    | 13, _ => rfl
    | 14, _ => rfl
    | 15, _ => rfl
    | j + 16, hj => exact absurd hj (by omega)
  exact Eq.trans (show H[q]? = some (vp_cell (kA 5) (16, .inr (.inr (.inr (.inr (fun j => (([some 24, some 26, some 28, some 30, some 32, some 34, some 36, some 38, some 40, some 42, some 44, some 46, some 48, some 50, some 52, some 54] : List (Option Nat)).getD j none).map ad)))))) from h) (congrArg some e)
set_option maxRecDepth 100000 in
theorem n_cc_24 {D : va_G} {kA : Nat → ClassId} {ad t : Nat → Nat} {H : Heap} {q : Nat} (h : va_at D vwCl (q, n_cv kA ad (nw_205.getD 56 (.inl (0, 0)))) H) : va_at D vwCl (q, a_mk kA (n_ad ad t) 24 (a_row a_S0 24)) H := h
set_option maxRecDepth 100000 in
theorem n_cc_25 {D : va_G} {kA : Nat → ClassId} {ad t : Nat → Nat} {H : Heap} {q : Nat} (h : va_at D vwCl (q, n_cv kA ad (nw_205.getD 57 (.inl (0, 0)))) H) : va_at D vwCl (q, a_mk kA (n_ad ad t) 25 (a_row a_S0 25)) H := h
set_option maxRecDepth 100000 in
theorem n_cc_26 {D : va_G} {kA : Nat → ClassId} {ad t : Nat → Nat} {H : Heap} {q : Nat} (h : va_at D vwCl (q, n_cv kA ad (nw_205.getD 58 (.inl (0, 0)))) H) : va_at D vwCl (q, a_mk kA (n_ad ad t) 26 (a_row a_S0 26)) H := h
set_option maxRecDepth 100000 in
theorem n_cc_27 {D : va_G} {kA : Nat → ClassId} {ad t : Nat → Nat} {H : Heap} {q : Nat} (h : va_at D vwCl (q, n_cv kA ad (nw_205.getD 59 (.inl (0, 0)))) H) : va_at D vwCl (q, a_mk kA (n_ad ad t) 27 (a_row a_S0 27)) H := h
set_option maxRecDepth 100000 in
theorem n_cc_28 {D : va_G} {kA : Nat → ClassId} {ad t : Nat → Nat} {H : Heap} {q : Nat} (h : va_at D vwCl (q, n_cv kA ad (nw_205.getD 60 (.inl (0, 0)))) H) : va_at D vwCl (q, a_mk kA (n_ad ad t) 28 (a_row a_S0 28)) H := h
set_option maxRecDepth 100000 in
theorem n_cc_29 {D : va_G} {kA : Nat → ClassId} {ad t : Nat → Nat} {H : Heap} {q : Nat} (h : va_at D vwCl (q, n_cv kA ad (nw_205.getD 61 (.inl (0, 0)))) H) : va_at D vwCl (q, a_mk kA (n_ad ad t) 29 (a_row a_S0 29)) H := h
set_option maxRecDepth 100000 in
theorem n_cc_30 {D : va_G} {kA : Nat → ClassId} {ad t : Nat → Nat} {H : Heap} {q : Nat} (h : va_at D vwCl (q, n_cv kA ad (nw_205.getD 62 (.inl (0, 0)))) H) : va_at D vwCl (q, a_mk kA (n_ad ad t) 30 (a_row a_S0 30)) H := h
set_option maxRecDepth 100000 in
theorem n_cc_31 {D : va_G} {kA : Nat → ClassId} {ad t : Nat → Nat} {H : Heap} {q : Nat} (h : va_at D vwCl (q, n_cv kA ad (nw_205.getD 63 (.inl (0, 0)))) H) : va_at D vwCl (q, a_mk kA (n_ad ad t) 31 (a_row a_S0 31)) H := h
set_option maxRecDepth 100000 in
theorem n_cc_32 {D : va_G} {kA : Nat → ClassId} {ad t : Nat → Nat} {H : Heap} {q : Nat} (h : va_at D vwCl (q, n_cv kA ad (nw_205.getD 64 (.inl (0, 0)))) H) : va_at D vwCl (q, a_mk kA (n_ad ad t) 32 (a_row a_S0 32)) H := h
set_option maxRecDepth 100000 in
theorem n_cc_33 {D : va_G} {kA : Nat → ClassId} {ad t : Nat → Nat} {H : Heap} {q : Nat} (h : va_at D vwCl (q, n_cv kA ad (nw_205.getD 65 (.inl (0, 0)))) H) : va_at D vwCl (q, a_mk kA (n_ad ad t) 33 (a_row a_S0 33)) H := h
set_option maxRecDepth 100000 in
theorem n_cc_34 {D : va_G} {kA : Nat → ClassId} {ad t : Nat → Nat} {H : Heap} {q : Nat} (h : va_at D vwCl (q, n_cv kA ad (nw_205.getD 66 (.inl (0, 0)))) H) : va_at D vwCl (q, a_mk kA (n_ad ad t) 34 (a_row a_S0 34)) H := h
set_option maxRecDepth 100000 in
theorem n_cc_35 {D : va_G} {kA : Nat → ClassId} {ad t : Nat → Nat} {H : Heap} {q : Nat} (h : va_at D vwCl (q, n_cv kA ad (nw_205.getD 67 (.inl (0, 0)))) H) : va_at D vwCl (q, a_mk kA (n_ad ad t) 35 (a_row a_S0 35)) H := h
set_option maxRecDepth 100000 in
theorem n_cc_36 {D : va_G} {kA : Nat → ClassId} {ad t : Nat → Nat} {H : Heap} {q : Nat} (h : va_at D vwCl (q, n_cv kA ad (nw_205.getD 68 (.inl (0, 0)))) H) : va_at D vwCl (q, a_mk kA (n_ad ad t) 36 (a_row a_S0 36)) H := h
set_option maxRecDepth 100000 in
theorem n_cc_37 {D : va_G} {kA : Nat → ClassId} {ad t : Nat → Nat} {H : Heap} {q : Nat} (h : va_at D vwCl (q, n_cv kA ad (nw_205.getD 69 (.inl (0, 0)))) H) : va_at D vwCl (q, a_mk kA (n_ad ad t) 37 (a_row a_S0 37)) H := h
set_option maxRecDepth 100000 in
theorem n_cc_38 {D : va_G} {kA : Nat → ClassId} {ad t : Nat → Nat} {H : Heap} {q : Nat} (h : va_at D vwCl (q, n_cv kA ad (nw_205.getD 70 (.inl (0, 0)))) H) : va_at D vwCl (q, a_mk kA (n_ad ad t) 38 (a_row a_S0 38)) H := h
set_option maxRecDepth 100000 in
theorem n_cc_39 {D : va_G} {kA : Nat → ClassId} {ad t : Nat → Nat} {H : Heap} {q : Nat} (h : va_at D vwCl (q, n_cv kA ad (nw_205.getD 71 (.inl (0, 0)))) H) : va_at D vwCl (q, a_mk kA (n_ad ad t) 39 (a_row a_S0 39)) H := h
set_option maxRecDepth 100000 in
theorem n_cc_40 {D : va_G} {kA : Nat → ClassId} {ad t : Nat → Nat} {H : Heap} {q : Nat} (h : va_at D vwCl (q, n_cv kA ad (nw_205.getD 72 (.inl (0, 0)))) H) : va_at D vwCl (q, a_mk kA (n_ad ad t) 40 (a_row a_S0 40)) H := h
set_option maxRecDepth 100000 in
theorem n_cc_41 {D : va_G} {kA : Nat → ClassId} {ad t : Nat → Nat} {H : Heap} {q : Nat} (h : va_at D vwCl (q, n_cv kA ad (nw_205.getD 73 (.inl (0, 0)))) H) : va_at D vwCl (q, a_mk kA (n_ad ad t) 41 (a_row a_S0 41)) H := h
set_option maxRecDepth 100000 in
theorem n_cc_42 {D : va_G} {kA : Nat → ClassId} {ad t : Nat → Nat} {H : Heap} {q : Nat} (h : va_at D vwCl (q, n_cv kA ad (nw_205.getD 74 (.inl (0, 0)))) H) : va_at D vwCl (q, a_mk kA (n_ad ad t) 42 (a_row a_S0 42)) H := h
set_option maxRecDepth 100000 in
theorem n_cc_43 {D : va_G} {kA : Nat → ClassId} {ad t : Nat → Nat} {H : Heap} {q : Nat} (h : va_at D vwCl (q, n_cv kA ad (nw_205.getD 75 (.inl (0, 0)))) H) : va_at D vwCl (q, a_mk kA (n_ad ad t) 43 (a_row a_S0 43)) H := h
set_option maxRecDepth 100000 in
theorem n_cc_44 {D : va_G} {kA : Nat → ClassId} {ad t : Nat → Nat} {H : Heap} {q : Nat} (h : va_at D vwCl (q, n_cv kA ad (nw_205.getD 76 (.inl (0, 0)))) H) : va_at D vwCl (q, a_mk kA (n_ad ad t) 44 (a_row a_S0 44)) H := h
set_option maxRecDepth 100000 in
theorem n_cc_45 {D : va_G} {kA : Nat → ClassId} {ad t : Nat → Nat} {H : Heap} {q : Nat} (h : va_at D vwCl (q, n_cv kA ad (nw_205.getD 77 (.inl (0, 0)))) H) : va_at D vwCl (q, a_mk kA (n_ad ad t) 45 (a_row a_S0 45)) H := h
set_option maxRecDepth 100000 in
theorem n_cc_46 {D : va_G} {kA : Nat → ClassId} {ad t : Nat → Nat} {H : Heap} {q : Nat} (h : va_at D vwCl (q, n_cv kA ad (nw_205.getD 78 (.inl (0, 0)))) H) : va_at D vwCl (q, a_mk kA (n_ad ad t) 46 (a_row a_S0 46)) H := h
set_option maxRecDepth 100000 in
theorem n_cc_47 {D : va_G} {kA : Nat → ClassId} {ad t : Nat → Nat} {H : Heap} {q : Nat} (h : va_at D vwCl (q, n_cv kA ad (nw_205.getD 79 (.inl (0, 0)))) H) : va_at D vwCl (q, a_mk kA (n_ad ad t) 47 (a_row a_S0 47)) H := h
set_option maxRecDepth 100000 in
theorem n_cc_48 {D : va_G} {kA : Nat → ClassId} {ad t : Nat → Nat} {H : Heap} {q : Nat} (h : va_at D vwCl (q, n_cv kA ad (nw_205.getD 80 (.inl (0, 0)))) H) : va_at D vwCl (q, a_mk kA (n_ad ad t) 48 (a_row a_S0 48)) H := h
set_option maxRecDepth 100000 in
theorem n_cc_49 {D : va_G} {kA : Nat → ClassId} {ad t : Nat → Nat} {H : Heap} {q : Nat} (h : va_at D vwCl (q, n_cv kA ad (nw_205.getD 81 (.inl (0, 0)))) H) : va_at D vwCl (q, a_mk kA (n_ad ad t) 49 (a_row a_S0 49)) H := h
set_option maxRecDepth 100000 in
theorem n_cc_50 {D : va_G} {kA : Nat → ClassId} {ad t : Nat → Nat} {H : Heap} {q : Nat} (h : va_at D vwCl (q, n_cv kA ad (nw_205.getD 82 (.inl (0, 0)))) H) : va_at D vwCl (q, a_mk kA (n_ad ad t) 50 (a_row a_S0 50)) H := h
set_option maxRecDepth 100000 in
theorem n_cc_51 {D : va_G} {kA : Nat → ClassId} {ad t : Nat → Nat} {H : Heap} {q : Nat} (h : va_at D vwCl (q, n_cv kA ad (nw_205.getD 83 (.inl (0, 0)))) H) : va_at D vwCl (q, a_mk kA (n_ad ad t) 51 (a_row a_S0 51)) H := h
set_option maxRecDepth 100000 in
theorem n_cc_52 {D : va_G} {kA : Nat → ClassId} {ad t : Nat → Nat} {H : Heap} {q : Nat} (h : va_at D vwCl (q, n_cv kA ad (nw_205.getD 84 (.inl (0, 0)))) H) : va_at D vwCl (q, a_mk kA (n_ad ad t) 52 (a_row a_S0 52)) H := h
set_option maxRecDepth 100000 in
theorem n_cc_53 {D : va_G} {kA : Nat → ClassId} {ad t : Nat → Nat} {H : Heap} {q : Nat} (h : va_at D vwCl (q, n_cv kA ad (nw_205.getD 85 (.inl (0, 0)))) H) : va_at D vwCl (q, a_mk kA (n_ad ad t) 53 (a_row a_S0 53)) H := h
set_option maxRecDepth 100000 in
theorem n_cc_54 {D : va_G} {kA : Nat → ClassId} {ad t : Nat → Nat} {H : Heap} {q : Nat} (h : va_at D vwCl (q, n_cv kA ad (nw_205.getD 86 (.inl (0, 0)))) H) : va_at D vwCl (q, a_mk kA (n_ad ad t) 54 (a_row a_S0 54)) H := h
set_option maxRecDepth 100000 in
theorem n_cc_55 {D : va_G} {kA : Nat → ClassId} {ad t : Nat → Nat} {H : Heap} {q : Nat} (h : va_at D vwCl (q, n_cv kA ad (nw_205.getD 87 (.inl (0, 0)))) H) : va_at D vwCl (q, a_mk kA (n_ad ad t) 55 (a_row a_S0 55)) H := h
set_option maxRecDepth 100000 in
theorem n_cc_56 {D : va_G} {kA : Nat → ClassId} {ad t : Nat → Nat} {H : Heap} {q : Nat} (h : va_at D vwCl (q, n_cv kA ad (nw_205.getD 88 (.inl (0, 0)))) H) : va_at D vwCl (q, a_mk kA (n_ad ad t) 56 (a_row a_S0 56)) H := h
set_option maxRecDepth 100000 in
theorem n_cc_57 {D : va_G} {kA : Nat → ClassId} {ad t : Nat → Nat} {H : Heap} {q : Nat} (h : va_at D vwCl (q, n_cv kA ad (nw_205.getD 89 (.inl (0, 0)))) H) : va_at D vwCl (q, a_mk kA (n_ad ad t) 57 (a_row a_S0 57)) H := h
set_option maxRecDepth 100000 in
theorem n_cc_58 {D : va_G} {kA : Nat → ClassId} {ad t : Nat → Nat} {H : Heap} {q : Nat} (h : va_at D vwCl (q, n_cv kA ad (nw_205.getD 90 (.inl (0, 0)))) H) : va_at D vwCl (q, a_mk kA (n_ad ad t) 58 (a_row a_S0 58)) H := h
set_option maxRecDepth 100000 in
theorem n_cc_59 {D : va_G} {kA : Nat → ClassId} {ad t : Nat → Nat} {H : Heap} {q : Nat} (h : va_at D vwCl (q, n_cv kA ad (nw_205.getD 91 (.inl (0, 0)))) H) : va_at D vwCl (q, a_mk kA (n_ad ad t) 59 (a_row a_S0 59)) H := h
set_option maxRecDepth 100000 in
theorem n_cc_60 {D : va_G} {kA : Nat → ClassId} {ad t : Nat → Nat} {H : Heap} {q : Nat} (h : va_at D vwCl (q, n_cv kA ad (nw_205.getD 92 (.inl (0, 0)))) H) : va_at D vwCl (q, a_mk kA (n_ad ad t) 60 (a_row a_S0 60)) H := h
set_option maxRecDepth 100000 in
theorem n_cc_61 {D : va_G} {kA : Nat → ClassId} {ad t : Nat → Nat} {H : Heap} {q : Nat} (h : va_at D vwCl (q, n_cv kA ad (nw_205.getD 93 (.inl (0, 0)))) H) : va_at D vwCl (q, a_mk kA (n_ad ad t) 61 (a_row a_S0 61)) H := h
set_option maxRecDepth 100000 in
theorem n_cc_62 {D : va_G} {kA : Nat → ClassId} {ad t : Nat → Nat} {H : Heap} {q : Nat} (h : va_at D vwCl (q, n_cv kA ad (nw_205.getD 24 (.inl (0, 0)))) H) : va_at D vwCl (q, a_mk kA (n_ad ad t) 62 (a_row a_S0 62)) H := h
set_option maxRecDepth 100000 in
theorem n_cc_63 {D : va_G} {kA : Nat → ClassId} {ad t : Nat → Nat} {H : Heap} {q : Nat} (h : va_at D vwCl (q, n_cv kA ad (nw_205.getD 25 (.inl (0, 0)))) H) : va_at D vwCl (q, a_mk kA (n_ad ad t) 63 (a_row a_S0 63)) H := h
set_option maxRecDepth 100000 in
theorem n_cc_64 {D : va_G} {kA : Nat → ClassId} {ad t : Nat → Nat} {H : Heap} {q : Nat} (h : va_at D vwCl (q, n_cv kA ad (nw_205.getD 26 (.inl (0, 0)))) H) : va_at D vwCl (q, a_mk kA (n_ad ad t) 64 (a_row a_S0 64)) H := h
set_option maxRecDepth 100000 in
theorem n_cc_65 {D : va_G} {kA : Nat → ClassId} {ad t : Nat → Nat} {H : Heap} {q : Nat} (h : va_at D vwCl (q, n_cv kA ad (nw_205.getD 27 (.inl (0, 0)))) H) : va_at D vwCl (q, a_mk kA (n_ad ad t) 65 (a_row a_S0 65)) H := h
set_option maxRecDepth 100000 in
theorem n_cc_66 {D : va_G} {kA : Nat → ClassId} {ad t : Nat → Nat} {H : Heap} {q : Nat} (h : va_at D vwCl (q, n_cv kA ad (nw_205.getD 28 (.inl (0, 0)))) H) : va_at D vwCl (q, a_mk kA (n_ad ad t) 66 (a_row a_S0 66)) H := h
set_option maxRecDepth 100000 in
theorem n_cc_67 {D : va_G} {kA : Nat → ClassId} {ad t : Nat → Nat} {H : Heap} {q : Nat} (h : va_at D vwCl (q, n_cv kA ad (nw_205.getD 29 (.inl (0, 0)))) H) : va_at D vwCl (q, a_mk kA (n_ad ad t) 67 (a_row a_S0 67)) H := h
set_option maxRecDepth 100000 in
theorem n_cc_68 {D : va_G} {kA : Nat → ClassId} {ad t : Nat → Nat} {H : Heap} {q : Nat} (h : va_at D vwCl (q, n_cv kA ad (nw_205.getD 30 (.inl (0, 0)))) H) : va_at D vwCl (q, a_mk kA (n_ad ad t) 68 (a_row a_S0 68)) H := h
set_option maxRecDepth 100000 in
theorem n_cc_69 {D : va_G} {kA : Nat → ClassId} {ad t : Nat → Nat} {H : Heap} {q : Nat} (h : va_at D vwCl (q, n_cv kA ad (nw_205.getD 31 (.inl (0, 0)))) H) : va_at D vwCl (q, a_mk kA (n_ad ad t) 69 (a_row a_S0 69)) H := h
set_option maxRecDepth 100000 in
theorem n_cc_70 {D : va_G} {kA : Nat → ClassId} {ad t : Nat → Nat} {H : Heap} {q : Nat} (h : va_at D vwCl (q, n_cv kA ad (nw_205.getD 32 (.inl (0, 0)))) H) : va_at D vwCl (q, a_mk kA (n_ad ad t) 70 (a_row a_S0 70)) H := h
set_option maxRecDepth 100000 in
theorem n_cc_71 {D : va_G} {kA : Nat → ClassId} {ad t : Nat → Nat} {H : Heap} {q : Nat} (h : va_at D vwCl (q, n_cv kA ad (nw_205.getD 33 (.inl (0, 0)))) H) : va_at D vwCl (q, a_mk kA (n_ad ad t) 71 (a_row a_S0 71)) H := h
set_option maxRecDepth 100000 in
theorem n_cc_72 {D : va_G} {kA : Nat → ClassId} {ad t : Nat → Nat} {H : Heap} {q : Nat} (h : va_at D vwCl (q, n_cv kA ad (nw_205.getD 34 (.inl (0, 0)))) H) : va_at D vwCl (q, a_mk kA (n_ad ad t) 72 (a_row a_S0 72)) H := h
set_option maxRecDepth 100000 in
theorem n_cc_73 {D : va_G} {kA : Nat → ClassId} {ad t : Nat → Nat} {H : Heap} {q : Nat} (h : va_at D vwCl (q, n_cv kA ad (nw_205.getD 35 (.inl (0, 0)))) H) : va_at D vwCl (q, a_mk kA (n_ad ad t) 73 (a_row a_S0 73)) H := h
set_option maxRecDepth 100000 in
theorem n_cc_74 {D : va_G} {kA : Nat → ClassId} {ad t : Nat → Nat} {H : Heap} {q : Nat} (h : va_at D vwCl (q, n_cv kA ad (nw_205.getD 36 (.inl (0, 0)))) H) : va_at D vwCl (q, a_mk kA (n_ad ad t) 74 (a_row a_S0 74)) H := h
set_option maxRecDepth 100000 in
theorem n_cc_75 {D : va_G} {kA : Nat → ClassId} {ad t : Nat → Nat} {H : Heap} {q : Nat} (h : va_at D vwCl (q, n_cv kA ad (nw_205.getD 37 (.inl (0, 0)))) H) : va_at D vwCl (q, a_mk kA (n_ad ad t) 75 (a_row a_S0 75)) H := h
set_option maxRecDepth 100000 in
theorem n_cc_76 {D : va_G} {kA : Nat → ClassId} {ad t : Nat → Nat} {H : Heap} {q : Nat} (h : va_at D vwCl (q, n_cv kA ad (nw_205.getD 38 (.inl (0, 0)))) H) : va_at D vwCl (q, a_mk kA (n_ad ad t) 76 (a_row a_S0 76)) H := h
set_option maxRecDepth 100000 in
theorem n_cc_77 {D : va_G} {kA : Nat → ClassId} {ad t : Nat → Nat} {H : Heap} {q : Nat} (h : va_at D vwCl (q, n_cv kA ad (nw_205.getD 39 (.inl (0, 0)))) H) : va_at D vwCl (q, a_mk kA (n_ad ad t) 77 (a_row a_S0 77)) H := h
set_option maxRecDepth 100000 in
theorem n_cc_78 {D : va_G} {kA : Nat → ClassId} {ad t : Nat → Nat} {H : Heap} {q : Nat} (h : va_at D vwCl (q, n_cv kA ad (nw_205.getD 40 (.inl (0, 0)))) H) : va_at D vwCl (q, a_mk kA (n_ad ad t) 78 (a_row a_S0 78)) H := h
set_option maxRecDepth 100000 in
theorem n_cc_79 {D : va_G} {kA : Nat → ClassId} {ad t : Nat → Nat} {H : Heap} {q : Nat} (h : va_at D vwCl (q, n_cv kA ad (nw_205.getD 41 (.inl (0, 0)))) H) : va_at D vwCl (q, a_mk kA (n_ad ad t) 79 (a_row a_S0 79)) H := h
set_option maxRecDepth 100000 in
theorem n_cc_80 {D : va_G} {kA : Nat → ClassId} {ad t : Nat → Nat} {H : Heap} {q : Nat} (h : va_at D vwCl (q, n_cv kA ad (nw_205.getD 42 (.inl (0, 0)))) H) : va_at D vwCl (q, a_mk kA (n_ad ad t) 80 (a_row a_S0 80)) H := h
set_option maxRecDepth 100000 in
theorem n_cc_81 {D : va_G} {kA : Nat → ClassId} {ad t : Nat → Nat} {H : Heap} {q : Nat} (h : va_at D vwCl (q, n_cv kA ad (nw_205.getD 43 (.inl (0, 0)))) H) : va_at D vwCl (q, a_mk kA (n_ad ad t) 81 (a_row a_S0 81)) H := h
set_option maxRecDepth 100000 in
theorem n_cc_82 {D : va_G} {kA : Nat → ClassId} {ad t : Nat → Nat} {H : Heap} {q : Nat} (h : va_at D vwCl (q, n_cv kA ad (nw_205.getD 44 (.inl (0, 0)))) H) : va_at D vwCl (q, a_mk kA (n_ad ad t) 82 (a_row a_S0 82)) H := h
set_option maxRecDepth 100000 in
theorem n_cc_83 {D : va_G} {kA : Nat → ClassId} {ad t : Nat → Nat} {H : Heap} {q : Nat} (h : va_at D vwCl (q, n_cv kA ad (nw_205.getD 45 (.inl (0, 0)))) H) : va_at D vwCl (q, a_mk kA (n_ad ad t) 83 (a_row a_S0 83)) H := h
set_option maxRecDepth 100000 in
theorem n_cc_84 {D : va_G} {kA : Nat → ClassId} {ad t : Nat → Nat} {H : Heap} {q : Nat} (h : va_at D vwCl (q, n_cv kA ad (nw_205.getD 46 (.inl (0, 0)))) H) : va_at D vwCl (q, a_mk kA (n_ad ad t) 84 (a_row a_S0 84)) H := h
set_option maxRecDepth 100000 in
theorem n_cc_85 {D : va_G} {kA : Nat → ClassId} {ad t : Nat → Nat} {H : Heap} {q : Nat} (h : va_at D vwCl (q, n_cv kA ad (nw_205.getD 47 (.inl (0, 0)))) H) : va_at D vwCl (q, a_mk kA (n_ad ad t) 85 (a_row a_S0 85)) H := h
set_option maxRecDepth 100000 in
theorem n_cc_86 {D : va_G} {kA : Nat → ClassId} {ad t : Nat → Nat} {H : Heap} {q : Nat} (h : va_at D vwCl (q, n_cv kA ad (nw_205.getD 48 (.inl (0, 0)))) H) : va_at D vwCl (q, a_mk kA (n_ad ad t) 86 (a_row a_S0 86)) H := h
set_option maxRecDepth 100000 in
theorem n_cc_87 {D : va_G} {kA : Nat → ClassId} {ad t : Nat → Nat} {H : Heap} {q : Nat} (h : va_at D vwCl (q, n_cv kA ad (nw_205.getD 49 (.inl (0, 0)))) H) : va_at D vwCl (q, a_mk kA (n_ad ad t) 87 (a_row a_S0 87)) H := h
set_option maxRecDepth 100000 in
theorem n_cc_88 {D : va_G} {kA : Nat → ClassId} {ad t : Nat → Nat} {H : Heap} {q : Nat} (h : va_at D vwCl (q, n_cv kA ad (nw_205.getD 50 (.inl (0, 0)))) H) : va_at D vwCl (q, a_mk kA (n_ad ad t) 88 (a_row a_S0 88)) H := h
set_option maxRecDepth 100000 in
theorem n_cc_89 {D : va_G} {kA : Nat → ClassId} {ad t : Nat → Nat} {H : Heap} {q : Nat} (h : va_at D vwCl (q, n_cv kA ad (nw_205.getD 51 (.inl (0, 0)))) H) : va_at D vwCl (q, a_mk kA (n_ad ad t) 89 (a_row a_S0 89)) H := h
set_option maxRecDepth 100000 in
theorem n_cc_90 {D : va_G} {kA : Nat → ClassId} {ad t : Nat → Nat} {H : Heap} {q : Nat} (h : va_at D vwCl (q, n_cv kA ad (nw_205.getD 52 (.inl (0, 0)))) H) : va_at D vwCl (q, a_mk kA (n_ad ad t) 90 (a_row a_S0 90)) H := h
set_option maxRecDepth 100000 in
theorem n_cc_91 {D : va_G} {kA : Nat → ClassId} {ad t : Nat → Nat} {H : Heap} {q : Nat} (h : va_at D vwCl (q, n_cv kA ad (nw_205.getD 53 (.inl (0, 0)))) H) : va_at D vwCl (q, a_mk kA (n_ad ad t) 91 (a_row a_S0 91)) H := h
set_option maxRecDepth 100000 in
theorem n_cc_92 {D : va_G} {kA : Nat → ClassId} {ad t : Nat → Nat} {H : Heap} {q : Nat} (h : va_at D vwCl (q, n_cv kA ad (nw_205.getD 54 (.inl (0, 0)))) H) : va_at D vwCl (q, a_mk kA (n_ad ad t) 92 (a_row a_S0 92)) H := h
set_option maxRecDepth 100000 in
theorem n_cc_93 {D : va_G} {kA : Nat → ClassId} {ad t : Nat → Nat} {H : Heap} {q : Nat} (h : va_at D vwCl (q, n_cv kA ad (nw_205.getD 55 (.inl (0, 0)))) H) : va_at D vwCl (q, a_mk kA (n_ad ad t) 93 (a_row a_S0 93)) H := h
set_option maxRecDepth 100000 in
theorem n_cc_94 {D : va_G} {kA : Nat → ClassId} {ad t : Nat → Nat} {H : Heap} {q : Nat} (h : va_at D vwCl (q, n_cv kA ad (nw_205.getD 94 (.inl (0, 0)))) H) : va_at D vwCl (q, a_mk kA (n_ad ad t) 94 (a_row a_S0 94)) H := h
set_option maxRecDepth 100000 in
theorem n_cc_95 {D : va_G} {kA : Nat → ClassId} {ad t : Nat → Nat} {H : Heap} {q : Nat} (h : va_at D vwCl (q, n_cv kA ad (nw_205.getD 95 (.inl (0, 0)))) H) : va_at D vwCl (q, a_mk kA (n_ad ad t) 95 (a_row a_S0 95)) H := h
set_option maxRecDepth 100000 in
theorem n_cc_96 {D : va_G} {kA : Nat → ClassId} {ad t : Nat → Nat} {H : Heap} {q : Nat} (h : va_at D vwCl (q, n_cv kA ad (nw_205.getD 96 (.inl (0, 0)))) H) : va_at D vwCl (q, a_mk kA (n_ad ad t) 96 (a_row a_S0 96)) H := h
set_option maxRecDepth 100000 in
theorem n_cc_97 {D : va_G} {kA : Nat → ClassId} {ad t : Nat → Nat} {H : Heap} {q : Nat} (h : va_at D vwCl (q, n_cv kA ad (nw_205.getD 97 (.inl (0, 0)))) H) : va_at D vwCl (q, a_mk kA (n_ad ad t) 97 (a_row a_S0 97)) H := h
set_option maxRecDepth 100000 in
theorem n_cc_98 {D : va_G} {kA : Nat → ClassId} {ad t : Nat → Nat} {H : Heap} {q : Nat} (h : va_at D vwCl (q, n_cv kA ad (nw_205.getD 98 (.inl (0, 0)))) H) : va_at D vwCl (q, a_mk kA (n_ad ad t) 98 (a_row a_S0 98)) H := h
set_option maxRecDepth 100000 in
theorem n_cc_99 {D : va_G} {kA : Nat → ClassId} {ad t : Nat → Nat} {H : Heap} {q : Nat} (h : va_at D vwCl (q, n_cv kA ad (nw_205.getD 99 (.inl (0, 0)))) H) : va_at D vwCl (q, a_mk kA (n_ad ad t) 99 (a_row a_S0 99)) H := h
set_option maxRecDepth 100000 in
theorem n_cc_100 {D : va_G} {kA : Nat → ClassId} {ad t : Nat → Nat} {H : Heap} {q : Nat} (h : va_at D vwCl (q, n_cv kA ad (nw_205.getD 100 (.inl (0, 0)))) H) : va_at D vwCl (q, a_mk kA (n_ad ad t) 100 (a_row a_S0 100)) H := h
set_option maxRecDepth 100000 in
theorem n_cc_101 {D : va_G} {kA : Nat → ClassId} {ad t : Nat → Nat} {H : Heap} {q : Nat} (h : va_at D vwCl (q, n_cv kA ad (nw_205.getD 101 (.inl (0, 0)))) H) : va_at D vwCl (q, a_mk kA (n_ad ad t) 101 (a_row a_S0 101)) H := h
set_option maxRecDepth 100000 in
theorem n_cc_102 {D : va_G} {kA : Nat → ClassId} {ad t : Nat → Nat} {H : Heap} {q : Nat} (h : va_at D vwCl (q, n_cv kA ad (nw_205.getD 102 (.inl (0, 0)))) H) : va_at D vwCl (q, a_mk kA (n_ad ad t) 102 (a_row a_S0 102)) H := h
set_option maxRecDepth 100000 in
theorem n_cc_103 {D : va_G} {kA : Nat → ClassId} {ad t : Nat → Nat} {H : Heap} {q : Nat} (h : va_at D vwCl (q, n_cv kA ad (nw_205.getD 103 (.inl (0, 0)))) H) : va_at D vwCl (q, a_mk kA (n_ad ad t) 103 (a_row a_S0 103)) H := h
set_option maxRecDepth 100000 in
theorem n_conv {D : va_G} {kA : Nat → ClassId} {ad : Nat → Nat} (t : Nat → Nat) {A : Nat → Prop} {H : Heap} (hP : va_P D vwCl (n_wl kA ad nw_205) H) (hD : va_D A (n_wl kA ad nw_205)) : va_P D vwCl (a_wl kA (n_ad ad t) a_S0) H ∧ va_D A (a_wl kA (n_ad ad t) a_S0) := by
  have hat : ∀ i, i < 104 → (n_wl kA ad nw_205)[i]? = some (ad i, n_cv kA ad (nw_205.getD i (.inl (0, 0)))) := by
    intro i hi
    have hl : nw_205.length = 104 := rfl
    refine n_at ?_
    rw [List.getD_eq_getElem?_getD, List.getElem?_eq_getElem (by omega)]
    rfl
  have hpi : ∀ c, c < 104 → n_pi.getD c 0 < 104 := by decide +kernel
  have hinj : ∀ c, c < 104 → ∀ d, d < 104 → n_pi.getD c 0 = n_pi.getD d 0 → c = d := by decide +kernel
  have had : ∀ c, c < 104 → n_ad ad t c = ad (n_pi.getD c 0) := fun c hc => by simp [n_ad, hc]
  refine ⟨fun k x hx => ?_, fun i j x y hx hy hxy => ?_, fun k x hx => ?_⟩
  · obtain ⟨hk, rfl⟩ := a_wl_mem hx
    rw [had k hk]
    have h0 := hP _ _ (hat _ (hpi k hk))
    match k, hk with
    | 0, _ => exact n_cc_0 h0
    | 1, _ => exact n_cc_1 h0
    | 2, _ => exact n_cc_2 h0
    | 3, _ => exact n_cc_3 h0
    | 4, _ => exact n_cc_4 h0
    | 5, _ => exact n_cc_5 h0
    | 6, _ => exact n_cc_6 h0
    | 7, _ => exact n_cc_7 h0
    | 8, _ => exact n_cc_8 h0
    | 9, _ => exact n_cc_9 h0
    | 10, _ => exact n_cc_10 h0
    | 11, _ => exact n_cc_11 h0
    | 12, _ => exact n_cc_12 h0
    | 13, _ => exact n_cc_13 h0
    | 14, _ => exact n_cc_14 h0
    | 15, _ => exact n_cc_15 h0
    | 16, _ => exact n_cc_16 h0
    | 17, _ => exact n_cc_17 h0
    | 18, _ => exact n_cc_18 h0
    | 19, _ => exact n_cc_19 h0
    | 20, _ => exact n_cc_20 h0
    | 21, _ => exact n_cc_21 h0
    | 22, _ => exact n_cc_22 h0
    | 23, _ => exact n_cc_23 h0
    | 24, _ => exact n_cc_24 h0
    | 25, _ => exact n_cc_25 h0
    | 26, _ => exact n_cc_26 h0
    | 27, _ => exact n_cc_27 h0
    | 28, _ => exact n_cc_28 h0
    | 29, _ => exact n_cc_29 h0
    | 30, _ => exact n_cc_30 h0
    | 31, _ => exact n_cc_31 h0
    | 32, _ => exact n_cc_32 h0
    | 33, _ => exact n_cc_33 h0
    | 34, _ => exact n_cc_34 h0
    | 35, _ => exact n_cc_35 h0
    | 36, _ => exact n_cc_36 h0
    | 37, _ => exact n_cc_37 h0
    | 38, _ => exact n_cc_38 h0
    | 39, _ => exact n_cc_39 h0
    | 40, _ => exact n_cc_40 h0
    | 41, _ => exact n_cc_41 h0
    | 42, _ => exact n_cc_42 h0
    | 43, _ => exact n_cc_43 h0
    | 44, _ => exact n_cc_44 h0
    | 45, _ => exact n_cc_45 h0
    | 46, _ => exact n_cc_46 h0
    | 47, _ => exact n_cc_47 h0
    | 48, _ => exact n_cc_48 h0
    | 49, _ => exact n_cc_49 h0
    | 50, _ => exact n_cc_50 h0
    | 51, _ => exact n_cc_51 h0
    | 52, _ => exact n_cc_52 h0
    | 53, _ => exact n_cc_53 h0
    | 54, _ => exact n_cc_54 h0
    | 55, _ => exact n_cc_55 h0
    | 56, _ => exact n_cc_56 h0
    | 57, _ => exact n_cc_57 h0
    | 58, _ => exact n_cc_58 h0
    | 59, _ => exact n_cc_59 h0
    | 60, _ => exact n_cc_60 h0
    | 61, _ => exact n_cc_61 h0
    | 62, _ => exact n_cc_62 h0
    | 63, _ => exact n_cc_63 h0
    | 64, _ => exact n_cc_64 h0
    | 65, _ => exact n_cc_65 h0
    | 66, _ => exact n_cc_66 h0
    | 67, _ => exact n_cc_67 h0
    | 68, _ => exact n_cc_68 h0
    | 69, _ => exact n_cc_69 h0
    | 70, _ => exact n_cc_70 h0
    | 71, _ => exact n_cc_71 h0
    | 72, _ => exact n_cc_72 h0
    | 73, _ => exact n_cc_73 h0
    | 74, _ => exact n_cc_74 h0
    | 75, _ => exact n_cc_75 h0
    | 76, _ => exact n_cc_76 h0
    | 77, _ => exact n_cc_77 h0
    | 78, _ => exact n_cc_78 h0
    | 79, _ => exact n_cc_79 h0
    | 80, _ => exact n_cc_80 h0
    | 81, _ => exact n_cc_81 h0
    | 82, _ => exact n_cc_82 h0
    | 83, _ => exact n_cc_83 h0
    | 84, _ => exact n_cc_84 h0
    | 85, _ => exact n_cc_85 h0
    | 86, _ => exact n_cc_86 h0
    | 87, _ => exact n_cc_87 h0
    | 88, _ => exact n_cc_88 h0
    | 89, _ => exact n_cc_89 h0
    | 90, _ => exact n_cc_90 h0
    | 91, _ => exact n_cc_91 h0
    | 92, _ => exact n_cc_92 h0
    | 93, _ => exact n_cc_93 h0
    | 94, _ => exact n_cc_94 h0
    | 95, _ => exact n_cc_95 h0
    | 96, _ => exact n_cc_96 h0
    | 97, _ => exact n_cc_97 h0
    | 98, _ => exact n_cc_98 h0
    | 99, _ => exact n_cc_99 h0
    | 100, _ => exact n_cc_100 h0
    | 101, _ => exact n_cc_101 h0
    | 102, _ => exact n_cc_102 h0
    | 103, _ => exact n_cc_103 h0
    | k + 104, hk => exact absurd hk (by omega)
  · obtain ⟨hi, rfl⟩ := a_wl_mem hx
    obtain ⟨hj, rfl⟩ := a_wl_mem hy
    rw [had i hi, had j hj] at hxy
    exact hinj i hi j hj (hD.1 _ _ _ _ (hat _ (hpi i hi)) (hat _ (hpi j hj)) hxy)
  · obtain ⟨hk, rfl⟩ := a_wl_mem hx
    have h9 : ad (n_pi.getD k 0) = n_ad ad t k := (had k hk).symm
    show (fun q => A q) (n_ad ad t k)
    rw [← h9]
    have h8 := hD.2 _ _ (hat _ (hpi k hk))
    exact h8
theorem l_arrP {args : Array Value} {s : State} {ty : FieldType} (hp : ∀ C, ty ≠ .object C) (h : (Cond.arrayClass ty).before args s = true) : ∃ cA : ClassId, ArrOfT s cA ty ∧ va_RA s cA ty := by
  obtain ⟨c, k, comp, h1, h2, h3⟩ := Cond.arrayClass_spec h
  refine ⟨c, fun n z => ⟨fun k h => (by cases h), k, h2, comp, h3⟩, ?_⟩
  cases ty with
  | object C => exact absurd rfl (hp C)
  | _ => exact h1
theorem l_arrO {args : Array Value} {s : State} {C : String} (h : (Cond.arrayOver (.object C)).before args s = true) : ∃ cA : ClassId, ArrOfT s cA (.object C) ∧ va_RA s cA (.object C) := by
  obtain ⟨comp, c, k, h1, h2, h3, h4, h5⟩ := Cond.arrayOver_spec h
  exact ⟨c, fun n z => ⟨fun k h => (by cases h), k, h3, comp, h4⟩, k, comp, h3, h4, h1, h5⟩
theorem l_tab {args : Array Value} {s : State} {nme : String} {N : Nat} {f : Nat → Int32} (hN : N < 2 ^ 31) (hl : (Cond.laysStatic "CoastLights" nme "[I").before args s = true) (hini : (Cond.initialized "CoastLights").before args s = true) (harr : (Cond.arrayOf (.static "CoastLights" nme "[I") .int).before args s = true) (hlen : (Cond.eq (.length (.static "CoastLights" nme "[I")) (.int (Int32.ofNat N))).before args s = true) (hel : ∀ j : Nat, j < N → (Cond.eq (.elem (.static "CoastLights" nme "[I") (.int (Int32.ofNat j))) (.int (f j))).before args s = true) :
    ∃ t : Nat, va_Z "CoastLights" nme "[I" (.ref t) (fun q => s.heap.size ≤ q) s s.heap ∧ va_T .int t N (fun j => .int (f j)) (fun q => s.heap.size ≤ q) s s.heap := by
  have hA : ∀ a : Nat, a < s.heap.size → ¬ (fun q : Nat => s.heap.size ≤ q) a := fun a h => Nat.not_le.mpr h
  obtain ⟨t, h1, h2⟩ := va_Tof (f := fun j => Value.int (f j)) (A := fun q => s.heap.size ≤ q) hN harr (va_eqt hlen) (fun j hj => va_eqt (hel j hj)) hA
  exact ⟨t, va_Zof hl hini h1 hA, h2⟩

