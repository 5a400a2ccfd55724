theorem a_ne18 {c k : Nat} (h : a_kd c = k) (hk : k ≠ 10) : c ≠ 18 ∧ c ≠ 19 := by
  constructor
  · intro e; subst e; exact hk (h.symm.trans rfl)
  · intro e; subst e; exact hk (h.symm.trans rfl)
def mi_X0_makeRoom : aMi := (cX0_makeRoom, 1, RX0, none, { frames := 0, cells := 2, slots := 21504, locals := 0 })
/-- fresh rows for the cells 18 and 19 -/
def a_new2 (C : aSc) (n k : Nat) : aSc := ((fun q => if q = 18 ∨ q = 19 then (fun _ => 0) else C.1 q), C.2.1, (fun q => if q = 18 then n else if q = 19 then k else C.2.2 q))
def f_X0_makeRoom (C : aSc) : Option aSc :=
  (some (a_pi C 14 5 ((1 : Int32) <<< ((a_gi C 14 3) &&& 31)))).bind fun C1 =>
    if a_gi C1 14 5 ≤ Int32.ofNat (a_ln C1 18) then some C1
    else if 0 ≤ (a_gi C1 14 5).toInt ∧ (a_gi C1 14 5).toInt ≤ 1024 then some (a_new2 C1 (a_gi C1 14 5).toNatClampNeg (a_gi C1 14 5 * 20).toNatClampNeg) else none
theorem ct_X0_makeRoom {C : aSc} {M : aMm} {S' : aSc} (h : f_X0_makeRoom C = some S') : Ct mi_X0_makeRoom yX0_makeRoom [.ref 14] (C, M) (none, (S', M)) := sorry
