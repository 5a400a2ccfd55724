def isL (c : Nat) : Prop := a_kd c = 1 ∧ c < 94 ∧ a_kd (c + 1) = 11 ∧ c + 1 < 94 ∧ a_kd (c + 2) = 10 ∧ c + 2 < 94
def isS (c : Nat) : Prop := a_kd c = 3 ∧ c < 94 ∧ a_kd (c + 1) = 10 ∧ c + 1 < 94
def isP (c : Nat) : Prop := a_kd c = 4 ∧ c < 94 ∧ a_kd (c + 1) = 10 ∧ c + 1 < 94
theorem br_z {α : Type} {c : Prop} [Decidable c] {a : Option α} {r : α} (h : (if c then none else a) = some r) : ¬ c ∧ a = some r := by
  by_cases hc : c
  · rw [if_pos hc] at h; cases h
  · rw [if_neg hc] at h; exact ⟨hc, h⟩
def bd2 {α β γ : Type} (o : Option (α × β)) (f : α → β → Option γ) : Option γ := o.bind (fun r => f r.1 r.2)
theorem br_b2 {α β γ : Type} {o : Option (α × β)} {f : α → β → Option γ} {r : γ} (h : bd2 o f = some r) : ∃ x y, o = some (x, y) ∧ f x y = some r := by
  cases o with
  | none => cases h
  | some x => exact ⟨x.1, x.2, rfl, h⟩
def a_nr (n : Nat) : Value := if n = 0 then .null else .ref n
theorem a_ckP_is {n : Nat} (h : 62 ≤ n ∧ n < 94 ∧ n % 2 = 0) : isP n := by
  have key : ∀ j, j < 94 → 62 ≤ j → j % 2 = 0 → (a_kd j = 4 ∧ j < 94 ∧ a_kd (j + 1) = 10 ∧ j + 1 < 94) := by decide
  exact key n h.2.1 h.1 h.2.2
theorem a_nr_res {v : Nat} {res : aRes} {S : aSt} (q : isP v) (h : res = (some (a_nr v), S)) : res = (some (.ref v), S) := by
  have hv : v ≠ 0 := by
    intro e
    have := q.1
    rw [e] at this
    exact absurd this (by decide)
  rw [h]
  simp [a_nr, hv]
def a_stb (L : List (Nat × Value)) : Bool := L.all (fun q => match q.2 with | .ref i => !(i == 18) && !(i == 19) | _ => true)
section JA
variable {mi mj : aMi} {res : aRes} {ck sk pc : Nat} {L : List (Nat × Value)} {st rest as : List Value} {C C' : aSc} {M M' : aMm} {S S' : aSt} {y : MethodName} {v : Option Value}
theorem J_nrN {n : Nat} (h : n = 0) (K : J mi res ck sk pc L (.null :: st) S) : J mi res ck sk pc L (a_nr n :: st) S := by
  subst h; exact K
theorem J_nrR {n : Nat} (h : ¬ n = 0) (K : J mi res ck sk pc L (.ref n :: st) S) : J mi res ck sk pc L (a_nr n :: st) S := by
  have e : a_nr n = .ref n := by simp [a_nr, h]
  rw [e]; exact K
theorem J_wide {ck' sk' : Nat} (h1 : ck ≤ ck') (h2 : sk ≤ sk') (K : J mi res ck' sk' pc L st S) : J mi res ck sk pc L st S := by
  intro p l e s m args below meth cd D kA ad A H locs ls ad0 X ha1 ha2 hl hP hD hS
  exact W.widen h1 h2 (K p l e s m args below meth cd D kA ad A H locs ls ad0 X ha1 ha2 hl hP hD hS)
theorem a_lc_stb {ad ad' : Nat → Nat} (h : ∀ c, ¬ (c = 18 ∨ c = 19) → ad' c = ad c) : ∀ {L : List (Nat × Value)}, a_stb L = true → a_lc ad' L = a_lc ad L
  | [], _ => rfl
  | q :: L, hL => by
    unfold a_stb at hL
    rw [List.all_cons, Bool.and_eq_true] at hL
    have ih := a_lc_stb (L := L) h hL.2
    show (q.1, a_cv ad' q.2) :: a_lc ad' L = (q.1, a_cv ad q.2) :: a_lc ad L
    rw [ih]
    congr 2
    obtain ⟨i, v⟩ := q
    cases v with
    | ref i =>
      have h1 := hL.1
      simp at h1
      show Value.ref (ad' i) = Value.ref (ad i)
      rw [h i (fun z => z.elim h1.1 h1.2)]
    | _ => rfl
/-- a call of a method that may make the cells 18 and 19 anew -/
theorem J_callA {b k n idx : Nat} {q : vw_C} (hC : Ct mj y (.ref b :: as) S (v, S')) (h0 : mj.2.2.2.2.cells = 2 ∧ mj.2.2.2.2.slots = 21504) (hst : st = as.reverse ++ [.ref b]) (hk : a_kd b = k) (hk9 : k < 9) (hcl : vwCl[k]? = some q)
    (hG : GoodIn a_tbl (wsV mi.2.2.1 idx q.1 y (Cond.code y mj.1 mj.2.1 mj.2.2.2.1 :: a_tbl))) (hd : y.cls = q.1 ∧ y.cls ≠ "java/lang/invoke/MethodHandle" ∧ y.cls ≠ "java/lang/invoke/VarHandle" ∧ (parseMethodDescriptor y.desc).map (fun d => d.parameters.length) = some n) (hn : as.length = n)
    (hR : mj.2.2.2.2.frames + 1 ≤ mi.2.2.2.2.frames ∧ 8 + (mj.2.1 + 11) + mj.2.2.2.2.locals ≤ mi.2.2.2.2.locals) (hL : a_stb L = true) (d : decode mi.1 pc = .ok (.invokevirtual idx, 3))
    (hcs : 2 ≤ mi.2.2.2.2.cells ∧ 21504 ≤ mi.2.2.2.2.slots) (hv : ∀ i, v ≠ some (.ref i))
    (K : J mi res 2 21504 (pc + 3) L (v.toList) S') : J mi res 0 0 pc L st S := by
  intro p l e s m args below meth cd D kA ad A H locs ls ad0 X ha1 ha2 hl hP hD hS
  have hb : b < 104 := a_lt hk (by omega)
  have he := a_wl_at (kA := kA) (ad := ad) (S := S) (c := b) hb
  rw [a_mk_o hk hk9] at he
  obtain ⟨hx, hbc, hml, hown, hts, hrt, hlk, hKK, hA, hSx⟩ := id X
  have hF := a_wA hD hS hA
  have hM := hC l D kA ad H.size
  rw [h0.1, h0.2] at hM
  refine a_go (mc := 2) (ms := 21504) (va_runV (As := as.map (a_cv ad)) (rest := []) (b := ad b) ⟨hx, hbc, hml, hown, hts⟩ hM (cwV n hts hG rfl h0.1 h0.2 hd hR) ⟨a_blind _ _ _ _ _ _, va_recv hKK hP hcl he, a_pre _ hKK hSx hA hP hD hS⟩ rfl (by rw [List.length_map]; exact hn) hl.1 (by rw [hst]; simp [a_cv]) (lv_room (Nat.zero_le _)) d ⟨by omega, by omega⟩) hS hF ?_
  intro ad' H1 locs1 h1 h2 hP1 hD1 hS1
  have e1 : (v.map (a_cv ad')).toList ++ [] = (v.toList).map (a_cv ad') := by cases v <;> rfl
  rw [e1]
  have X' : a_Cx mi D kA ad' A p s m args meth cd := ⟨hx, hbc, hml, hown, hts, hrt, hlk, hKK, hA, fun c h3 h4 => by rw [h1 c (by omega)]; exact hSx c h3 h4⟩
  have := K p l e s m args below meth cd D kA ad' A H1 locs1 ls ad0 X' (fun c hc => (h1 c hc).trans (ha1 c hc)) (fun z => absurd z (by omega)) (by rw [a_lc_stb h1 hL]; exact hl) hP1 hD1 hS1
  simpa using this
end JA
