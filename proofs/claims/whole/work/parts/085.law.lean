/-! THE CLAIM OUT OF ONE WALK OF THE LAW'S BODY. Your part is whole_start (and what it stands on); all else here is the same for every law, but numbers. -/
def R_law : String := "CoastLightsLaw"
def lw_P (b : Addr) (xs : List Int32) (args : Array Value) (s : State) : Prop := args = #[.ref b] ∧ s.IntsAt b xs ∧ xs.length ≤ 384 ∧ (Jvm.Cond.and given_1 narrow_1).before args s = true
def lw_Q (_ : Array Value) (s : State) (o : Outcome) (t : State) : Prop := o = .returned (some (.int 1)) ∧ Framed s o t [] 600000 7302250
def lw_Z (below : List Frame) (a : Array Value) (s : State) : State → Prop := fun t => ∃ o, t.status = .running ∧ Ended t below o ∧ lw_Q a s o t
/-- the law's own end, with 1 on the stack, nothing written that was there before, its room as the claim has it -/
theorem lw_ret {p : Program} {l : Launch} {e : Env} {s : State} {m : MethodId} {below : List Frame} {meth : Method} {c : Code} {b : Nat} (hx : p.tables.exec = Jvm.exec) (hb : c.code = code) (hr : meth.sig.returnType = ret) (hlocks : meth.locks = false) {pc : Nat} {H : Heap} {ls : Array Slot} (hdg : decode code pc = .ok (.ireturn, 1)) : W p l e room_1 s m #[Value.ref b] below meth c H [] 600000 7302250 (lw_Z below #[Value.ref b] s) (F0 m pc ls [.int 1]) := by
  intro T hT X
  obtain ⟨fs, hret, hrun, hended, hW, hframe⟩ := X.leave (v := some (.int 1)) (hlocks := hlocks) (fun h => by rw [hr] at h; cases h)
  have hmeth' : T.vm.method? m = some meth := X.method'
  refine ⟨T.setFrames fs, ?_, .returned (some (.int 1)), hrun, hended, rfl, ⟨_, rfl⟩, hW, hframe⟩
  jvm_step X.here [X.here.top, hx, hb, hdg, hmeth', hr, ret, narrow_b1]
  (try refine ⟨rfl, ?_⟩); (try refine ⟨rfl, ?_⟩)
  first | (intro acts; rw [hret _ acts rfl rfl rfl]) | rw [hret _ _ rfl rfl rfl]
  exact Steps.refl _
/-- what holds at the law's entry: the machine, the code, the tables' words (any of lw_tbl by 'hts w (by decide +kernel)'), the script of L ints xs at the cell b, what the Statement gives of the start (any of its parts by flat_of_before) -/
def lw_At (p : Program) (s : State) (m : MethodId) (meth : Method) (c : Code) (b L : Nat) (xs : Nat → Int32) : Prop :=
  p.tables.exec = Jvm.exec ∧ c.code = code ∧ meth.sig.returnType = ret ∧ c.maxLocals = 4 ∧ s.vm.findClass R_law = some m.cls ∧ (∀ w ∈ lw_tbl, w.before #[Value.ref b] s = true) ∧ va_X b L xs s s.heap ∧ b < s.heap.size ∧ meth.locks = false ∧ (Jvm.Cond.and given_1 narrow_1).before #[Value.ref b] s = true

/-! THE LAW'S JUDGEMENT: the script is cell 300 -/
def l_Cx (b Ln : Nat) (xs : Nat → Int32) (D : va_G) (kA : Nat → ClassId) (ad : Nat → Nat) (p : Program) (s : State) (m : MethodId) (meth : Method) (c : Code) : Prop :=
  lw_At p s m meth c b Ln xs ∧ va_K D vwCl (a_tys kA) s ∧ a_Sx ad (fun q => s.heap.size ≤ q) s s.heap ∧ ad 300 = b
def JL (Ln : Nat) (xs : Nat → Int32) (ck sk pc : Nat) (L : List (Nat × Value)) (st : List Value) (S : aSt) : Prop :=
  ∀ (p : Program) (l : Launch) (e : Env) (s : State) (m : MethodId) (below : List Frame) (meth : Method) (c : Code) (b : Nat) (D : va_G) (kA : Nat → ClassId) (ad : Nat → Nat) (H : Heap) (locs : List Loc) (ls : Array Slot),
    l_Cx b Ln xs D kA ad p s m meth c → lv_has ls 4 (a_lc ad L) → va_P D vwCl (a_wl kA ad S) H → va_D (fun q => s.heap.size ≤ q) (a_wl kA ad S) → va_S (fun q => s.heap.size ≤ q) s.heap H locs →
    W p l e room_1 s m #[Value.ref b] below meth c H locs ck sk (lw_Z below #[Value.ref b] s) (F0 m pc ls (st.map (a_cv ad)))

theorem L_iconst {Ln : Nat} {xs : Nat → Int32} {ck sk pc : Nat} {L : List (Nat × Value)} {st : List Value} {S : aSt} {n : Int} (v : Int32) (d : decode cL_law pc = .ok (.iconst n, 1)) (hv : Int32.ofInt n = v) (K : JL Ln xs ck sk (pc + 1) L (.int v :: st) S) : JL Ln xs ck sk pc L (st) S := by
  intro p l e s m below meth c b D kA ad H locs ls X hl hP hD hS
  exact lv_iconst X.1.1 X.1.2.1 d hv (K p l e s m below meth c b D kA ad H locs ls X hl hP hD hS)

theorem L_bipush {Ln : Nat} {xs : Nat → Int32} {ck sk pc : Nat} {L : List (Nat × Value)} {st : List Value} {S : aSt} {n : Int} (v : Int32) (d : decode cL_law pc = .ok (.bipush n, 2)) (hv : (Int8.ofInt n).toInt32 = v) (K : JL Ln xs ck sk (pc + 2) L (.int v :: st) S) : JL Ln xs ck sk pc L (st) S := by
  intro p l e s m below meth c b D kA ad H locs ls X hl hP hD hS
  exact lv_bipush X.1.1 X.1.2.1 d hv (K p l e s m below meth c b D kA ad H locs ls X hl hP hD hS)

theorem L_ldc2 {Ln : Nat} {xs : Nat → Int32} {ck sk pc : Nat} {L : List (Nat × Value)} {st : List Value} {S : aSt} {index : Nat} (v : Int64) (d : decode cL_law pc = .ok (.ldc2_w index, 3)) (hw : Cond.constantLong R_law index v ∈ lw_tbl) (K : JL Ln xs ck sk (pc + 3) L (.long v :: st) S) : JL Ln xs ck sk pc L (st) S := by
  intro p l e s m below meth c b D kA ad H locs ls X hl hP hD hS
  exact lv_ldc2 X.1.1 X.1.2.1 X.1.2.2.2.2.1 (X.1.2.2.2.2.2.1 _ hw) d (K p l e s m below meth c b D kA ad H locs ls X hl hP hD hS)

theorem L_iload_n {Ln : Nat} {xs : Nat → Int32} {ck sk pc : Nat} {L : List (Nat × Value)} {st : List Value} {S : aSt} {k : Fin 4} {i : Nat} {x : Int32} (d : decode cL_law pc = .ok (.iload_n k, 1)) (hi : (k : Nat) = i) (j : Nat) (hL : L[j]? = some (i, .int x)) (K : JL Ln xs ck sk (pc + 1) L (.int x :: st) S) : JL Ln xs ck sk pc L (st) S := by
  intro p l e s m below meth c b D kA ad H locs ls X hl hP hD hS
  exact lv_iload_n X.1.1 X.1.2.1 d hi (a_lc_at hl hL) (K p l e s m below meth c b D kA ad H locs ls X hl hP hD hS)

theorem L_aload_n {Ln : Nat} {xs : Nat → Int32} {ck sk pc : Nat} {L : List (Nat × Value)} {st : List Value} {S : aSt} {k : Fin 4} {i : Nat} {x : Nat} (d : decode cL_law pc = .ok (.aload_n k, 1)) (hi : (k : Nat) = i) (j : Nat) (hL : L[j]? = some (i, .ref x)) (K : JL Ln xs ck sk (pc + 1) L (.ref x :: st) S) : JL Ln xs ck sk pc L (st) S := by
  intro p l e s m below meth c b D kA ad H locs ls X hl hP hD hS
  exact lv_aload_n X.1.1 X.1.2.1 d hi (a_lc_at hl hL) (K p l e s m below meth c b D kA ad H locs ls X hl hP hD hS)

theorem L_iinc {Ln : Nat} {xs : Nat → Int32} {ck sk pc : Nat} {L : List (Nat × Value)} {st : List Value} {S : aSt} {i j : Nat} {n : Int} {x v : Int32} {L' : List (Nat × Value)} (d : decode cL_law pc = .ok (.iinc i n, 3)) (hj : L[j]? = some (i, .int x)) (hv : x + Int32.ofInt n = v) (hn : i < 4) (hL : (i, Value.int v) :: a_f1 i L = L') (K : JL Ln xs ck sk (pc + 3) L' (st) S) : JL Ln xs ck sk pc L (st) S := by
  intro p l e s m below meth c b D kA ad H locs ls X hl hP hD hS
  exact lv_iinc (lv' := a_lc ad L') (k := j) X.1.1 X.1.2.1 d hl (by simp [a_lc, List.getElem?_map, hj, a_cv]) hv hn (by rw [a_lc_f1, ← hL]; rfl) (fun ls hl => K p l e s m below meth c b D kA ad H locs ls X hl hP hD hS)

theorem L_iadd {Ln : Nat} {xs : Nat → Int32} {ck sk pc : Nat} {L : List (Nat × Value)} {st : List Value} {S : aSt} {x y : Int32} (d : decode cL_law pc = .ok (.iadd, 1)) (K : JL Ln xs ck sk (pc + 1) L (.int (x + y) :: st) S) : JL Ln xs ck sk pc L (.int y :: .int x :: st) S := by
  intro p l e s m below meth c b D kA ad H locs ls X hl hP hD hS
  exact lv_iadd X.1.1 X.1.2.1 d (K p l e s m below meth c b D kA ad H locs ls X hl hP hD hS)

theorem L_isub {Ln : Nat} {xs : Nat → Int32} {ck sk pc : Nat} {L : List (Nat × Value)} {st : List Value} {S : aSt} {x y : Int32} (d : decode cL_law pc = .ok (.isub, 1)) (K : JL Ln xs ck sk (pc + 1) L (.int (x - y) :: st) S) : JL Ln xs ck sk pc L (.int y :: .int x :: st) S := by
  intro p l e s m below meth c b D kA ad H locs ls X hl hP hD hS
  exact lv_isub X.1.1 X.1.2.1 d (K p l e s m below meth c b D kA ad H locs ls X hl hP hD hS)

theorem L_iand {Ln : Nat} {xs : Nat → Int32} {ck sk pc : Nat} {L : List (Nat × Value)} {st : List Value} {S : aSt} {x y : Int32} (d : decode cL_law pc = .ok (.iand, 1)) (K : JL Ln xs ck sk (pc + 1) L (.int (x &&& y) :: st) S) : JL Ln xs ck sk pc L (.int y :: .int x :: st) S := by
  intro p l e s m below meth c b D kA ad H locs ls X hl hP hD hS
  exact lv_iand X.1.1 X.1.2.1 d (K p l e s m below meth c b D kA ad H locs ls X hl hP hD hS)

theorem L_land {Ln : Nat} {xs : Nat → Int32} {ck sk pc : Nat} {L : List (Nat × Value)} {st : List Value} {S : aSt} {x y : Int64} (d : decode cL_law pc = .ok (.land, 1)) (K : JL Ln xs ck sk (pc + 1) L (.long (x &&& y) :: st) S) : JL Ln xs ck sk pc L (.long y :: .long x :: st) S := by
  intro p l e s m below meth c b D kA ad H locs ls X hl hP hD hS
  exact lv_land X.1.1 X.1.2.1 d (K p l e s m below meth c b D kA ad H locs ls X hl hP hD hS)

theorem L_lor {Ln : Nat} {xs : Nat → Int32} {ck sk pc : Nat} {L : List (Nat × Value)} {st : List Value} {S : aSt} {x y : Int64} (d : decode cL_law pc = .ok (.lor, 1)) (K : JL Ln xs ck sk (pc + 1) L (.long (x ||| y) :: st) S) : JL Ln xs ck sk pc L (.long y :: .long x :: st) S := by
  intro p l e s m below meth c b D kA ad H locs ls X hl hP hD hS
  exact lv_lor X.1.1 X.1.2.1 d (K p l e s m below meth c b D kA ad H locs ls X hl hP hD hS)

theorem L_lshl {Ln : Nat} {xs : Nat → Int32} {ck sk pc : Nat} {L : List (Nat × Value)} {st : List Value} {S : aSt} {x : Int64} {y : Int32} (d : decode cL_law pc = .ok (.lshl, 1)) (K : JL Ln xs ck sk (pc + 1) L (.long (x <<< (y.toInt64 &&& 63)) :: st) S) : JL Ln xs ck sk pc L (.int y :: .long x :: st) S := by
  intro p l e s m below meth c b D kA ad H locs ls X hl hP hD hS
  exact lv_lshl X.1.1 X.1.2.1 d rfl (K p l e s m below meth c b D kA ad H locs ls X hl hP hD hS)

theorem L_i2l {Ln : Nat} {xs : Nat → Int32} {ck sk pc : Nat} {L : List (Nat × Value)} {st : List Value} {S : aSt} {x : Int32} (d : decode cL_law pc = .ok (.i2l, 1)) (K : JL Ln xs ck sk (pc + 1) L (.long x.toInt64 :: st) S) : JL Ln xs ck sk pc L (.int x :: st) S := by
  intro p l e s m below meth c b D kA ad H locs ls X hl hP hD hS
  exact lv_i2l X.1.1 X.1.2.1 d rfl (K p l e s m below meth c b D kA ad H locs ls X hl hP hD hS)

theorem L_goto {Ln : Nat} {xs : Nat → Int32} {ck sk pc : Nat} {L : List (Nat × Value)} {st : List Value} {S : aSt} {off : Int} (tgt : Nat) (d : decode cL_law pc = .ok (.goto off, 3)) (ht : (pc : Int) + off = (tgt : Int)) (K : JL Ln xs ck sk (tgt) L (st) S) : JL Ln xs ck sk pc L (st) S := by
  intro p l e s m below meth c b D kA ad H locs ls X hl hP hD hS
  exact lv_goto X.1.1 X.1.2.1 d ht (K p l e s m below meth c b D kA ad H locs ls X hl hP hD hS)

theorem L_eqT {Ln : Nat} {xs : Nat → Int32} {ck sk pc : Nat} {L : List (Nat × Value)} {st : List Value} {S : aSt} {x : Int32} {off : Int} (tgt : Nat) (d : decode cL_law pc = .ok (.ifCond .eq off, 3)) (ht : (pc : Int) + off = (tgt : Int)) (hc : x = 0) (K : JL Ln xs ck sk (tgt) L (st) S) : JL Ln xs ck sk pc L (.int x :: st) S := by
  intro p l e s m below meth c b D kA ad H locs ls X hl hP hD hS
  exact lv_if_eq X.1.1 X.1.2.1 d ht (fun _ => (K p l e s m below meth c b D kA ad H locs ls X hl hP hD hS)) (fun h => absurd hc h)

theorem L_eqF {Ln : Nat} {xs : Nat → Int32} {ck sk pc : Nat} {L : List (Nat × Value)} {st : List Value} {S : aSt} {x : Int32} {off : Int} (tgt : Nat) (d : decode cL_law pc = .ok (.ifCond .eq off, 3)) (ht : (pc : Int) + off = (tgt : Int)) (hc : ¬ x = 0) (K : JL Ln xs ck sk (pc + 3) L (st) S) : JL Ln xs ck sk pc L (.int x :: st) S := by
  intro p l e s m below meth c b D kA ad H locs ls X hl hP hD hS
  exact lv_if_eq X.1.1 X.1.2.1 d ht (fun h => absurd h hc) (fun _ => (K p l e s m below meth c b D kA ad H locs ls X hl hP hD hS))

theorem L_cmpT {Ln : Nat} {xs : Nat → Int32} {ck sk pc : Nat} {L : List (Nat × Value)} {st : List Value} {S : aSt} {x : Int32} {off : Int} (tgt : Nat) (d : decode cL_law pc = .ok (.if_icmp .eq off, 3)) (ht : (pc : Int) + off = (tgt : Int)) (K : JL Ln xs ck sk (tgt) L (st) S) : JL Ln xs ck sk pc L (.int x :: .int x :: st) S := by
  intro p l e s m below meth c b D kA ad H locs ls X hl hP hD hS
  exact lv_icmp_eq X.1.1 X.1.2.1 d ht (fun _ => (K p l e s m below meth c b D kA ad H locs ls X hl hP hD hS)) (fun h => absurd rfl h)

theorem L_gtT {Ln : Nat} {xs : Nat → Int32} {ck sk pc : Nat} {L : List (Nat × Value)} {st : List Value} {S : aSt} {x y : Int32} {off : Int} (tgt : Nat) (d : decode cL_law pc = .ok (.if_icmp .gt off, 3)) (ht : (pc : Int) + off = (tgt : Int)) (hc : y < x) (K : JL Ln xs ck sk (tgt) L (st) S) : JL Ln xs ck sk pc L (.int y :: .int x :: st) S := by
  intro p l e s m below meth c b D kA ad H locs ls X hl hP hD hS
  exact lv_icmp_gt X.1.1 X.1.2.1 d ht (fun _ => (K p l e s m below meth c b D kA ad H locs ls X hl hP hD hS)) (fun h => absurd hc h)

theorem L_gtF {Ln : Nat} {xs : Nat → Int32} {ck sk pc : Nat} {L : List (Nat × Value)} {st : List Value} {S : aSt} {x y : Int32} {off : Int} (tgt : Nat) (d : decode cL_law pc = .ok (.if_icmp .gt off, 3)) (ht : (pc : Int) + off = (tgt : Int)) (hc : ¬ y < x) (K : JL Ln xs ck sk (pc + 3) L (st) S) : JL Ln xs ck sk pc L (.int y :: .int x :: st) S := by
  intro p l e s m below meth c b D kA ad H locs ls X hl hP hD hS
  exact lv_icmp_gt X.1.1 X.1.2.1 d ht (fun h => absurd h hc) (fun _ => (K p l e s m below meth c b D kA ad H locs ls X hl hP hD hS))

section LL
variable {Ln : Nat} {xs : Nat → Int32} {ck sk pc : Nat} {L : List (Nat × Value)} {st rest as : List Value} {S S' : aSt} {mj : aMi} {y : MethodName} {v : Option Value}
theorem L_sld {i : Int32} (hin : vp_in i Ln) (d : decode cL_law pc = .ok (.iaload, 1)) (K : JL Ln xs ck sk (pc + 1) L (.int (xs i.toNatClampNeg) :: st) S) : JL Ln xs ck sk pc L (.int i :: .ref 300 :: st) S := by
  intro p l e s m below meth c b D kA ad H locs ls X hl hP hD hS
  obtain ⟨⟨hx, hb, hr, hml, hown, hts, hX, hbl, hlk, hgv⟩, hK, hSx, hb3⟩ := id X
  show W p l e room_1 s m #[Value.ref b] below meth c H locs ck sk (lw_Z below #[Value.ref b] s) (F0 m pc ls (.int i :: .ref (ad 300) :: st.map (a_cv ad)))
  rw [hb3]
  exact va_sld hx hb hX hbl (A := fun q => s.heap.size ≤ q) (Nat.not_le.mpr hbl) hS hin d (K p l e s m below meth c b D kA ad H locs ls X hl hP hD hS)
theorem L_slen (d : decode cL_law pc = .ok (.arraylength, 1)) (K : JL Ln xs ck sk (pc + 1) L (.int (Int32.ofNat Ln) :: st) S) : JL Ln xs ck sk pc L (.ref 300 :: st) S := by
  intro p l e s m below meth c b D kA ad H locs ls X hl hP hD hS
  obtain ⟨⟨hx, hb, hr, hml, hown, hts, hX, hbl, hlk, hgv⟩, hK, hSx, hb3⟩ := id X
  show W p l e room_1 s m #[Value.ref b] below meth c H locs ck sk (lw_Z below #[Value.ref b] s) (F0 m pc ls (.ref (ad 300) :: st.map (a_cv ad)))
  rw [hb3]
  exact va_slen hx hb hX hbl (A := fun q => s.heap.size ≤ q) (Nat.not_le.mpr hbl) hS d (K p l e s m below meth c b D kA ad H locs ls X hl hP hD hS)
theorem L_sub {L' : List (Nat × Value)} (ks : List Nat) (hL : lv_pick L ks = L') (K : JL Ln xs ck sk pc L' st S) : JL Ln xs ck sk pc L st S := by
  intro p l e s m below meth c b D kA ad H locs ls X hl hP hD hS
  refine K p l e s m below meth c b D kA ad H locs ls X (lv_sub hl ks ?_) hP hD hS
  subst hL
  clear hl
  unfold lv_pick a_lc
  rw [List.map_filterMap]
  congr 1
  funext k
  simp
theorem L_wide {ck' sk' : Nat} (h1 : ck ≤ ck') (h2 : sk ≤ sk') (K : JL Ln xs ck' sk' pc L st S) : JL Ln xs ck sk pc L st S := by
  intro p l e s m below meth c b D kA ad H locs ls X hl hP hD hS
  exact W.widen h1 h2 (K p l e s m below meth c b D kA ad H locs ls X hl hP hD hS)
theorem L_tsw {dflt lo hi : Int} {offs : Array Int} {len : Nat} {x : Int32} (tgt : Nat) (d : decode cL_law pc = .ok (.tableswitch dflt lo hi offs, len)) (hlen : (hi - lo).toNat < offs.size) (ht : (pc : Int) + a_tsw dflt lo hi offs x.toInt = (tgt : Int)) (K : JL Ln xs ck sk tgt L st S) : JL Ln xs ck sk pc L (.int x :: st) S := by
  intro p l e s m below meth c b D kA ad H locs ls X hl hP hD hS
  unfold a_tsw at ht
  by_cases h : x.toInt < lo ∨ hi < x.toInt
  · rw [if_pos h] at ht
    exact lv_tableOut X.1.1 X.1.2.1 d h ht (K p l e s m below meth c b D kA ad H locs ls X hl hP hD hS)
  · rw [if_neg h] at ht
    have hl2 : (x.toInt - lo).toNat < offs.size := by omega
    obtain ⟨off, ho⟩ : ∃ off, offs[(x.toInt - lo).toNat]? = some off := ⟨_, Array.getElem?_eq_getElem hl2⟩
    rw [ho] at ht
    exact lv_tableIn X.1.1 X.1.2.1 d (fun q => h (Or.inl q)) (fun q => h (Or.inr q)) ho ht (K p l e s m below meth c b D kA ad H locs ls X hl hP hD hS)
theorem L_end (h1 : ck ≤ 600000) (h2 : sk ≤ 7302250) (d : decode cL_law pc = .ok (.ireturn, 1)) : JL Ln xs ck sk pc L [.int 1] S := by
  intro p l e s m below meth c b D kA ad H locs ls X hl hP hD hS
  obtain ⟨⟨hx, hb, hr, hml, hown, hts, hX, hbl, hlk, hgv⟩, hK, hSx, hb3⟩ := id X
  refine va_forget (fun q hq => hS.2.2 q hq) ?_
  refine W.widen (k := 600000) (n := 7302250) h1 h2 ?_
  exact lw_ret hx hb hr hlk d
theorem L_goodV {own : String} {idx : Nat} {Cn : String} {cw : Cond} (h1 : Cond.methodLink own idx y ∈ a_tbl) (h2 : Cond.instanceMethod y ∈ a_tbl) (h3 : Cond.selects Cn y y ∈ a_tbl) (h4 : Cond.initialized Cn ∈ a_tbl) (h5 : cw ∈ a_tbl) : GoodIn lw_tbl (wsV own idx Cn y (cw :: a_tbl)) := fun w hw => ⟨a_tbl_in ((a_goodV h1 h2 h3 h4 h5) w hw).1, ((a_goodV h1 h2 h3 h4 h5) w hw).2⟩
/-- a call out of the law -/
theorem L_call {b0 k n idx : Nat} {q : vw_C} (hC : Ct mj y (.ref b0 :: as) S (v, S')) (hst : st = as.reverse ++ .ref b0 :: rest) (hk : a_kd b0 = k) (hk9 : k < 9) (hcl : vwCl[k]? = some q)
    (hG : GoodIn lw_tbl (wsV R_law idx q.1 y (Cond.code y mj.1 mj.2.1 mj.2.2.2.1 :: a_tbl))) (hd : y.cls = q.1 ∧ y.cls ≠ "java/lang/invoke/MethodHandle" ∧ y.cls ≠ "java/lang/invoke/VarHandle" ∧ (parseMethodDescriptor y.desc).map (fun d => d.parameters.length) = some n) (hn : as.length = n)
    (hR : mj.2.2.2.2.frames + 1 ≤ 9 ∧ 8 + (mj.2.1 + 11) + mj.2.2.2.2.locals ≤ 328) (hsum : (rest.map fun v => v.category).sum ≤ 8) (hcs : ck + mj.2.2.2.2.cells ≤ 600000 ∧ sk + mj.2.2.2.2.slots ≤ 7302250) (hv : ∀ i, v ≠ some (.ref i)) (hL : a_stb L = true) (hrs : ∀ x ∈ rest, ∀ i, x ≠ .ref i) (d : decode cL_law pc = .ok (.invokevirtual idx, 3))
    (K : JL Ln xs (ck + mj.2.2.2.2.cells) (sk + mj.2.2.2.2.slots) (pc + 3) L (v.toList ++ rest) S') : JL Ln xs ck sk pc L st S := by
  intro p l e s m below meth c b D kA ad H locs ls X hl hP hD hS
  have hb : b0 < 104 := a_lt hk (by omega)
  have he := a_wl_at (kA := kA) (ad := ad) (S := S) (c := b0) hb
  rw [a_mk_o hk hk9] at he
  obtain ⟨⟨hx, hbc, hr, hml, hown, hts, hX, hbl, hlk, hgv⟩, hK, hSx, hb3⟩ := id X
  have hA : ∀ q : Nat, s.heap.size ≤ q → (fun q : Nat => s.heap.size ≤ q) q := fun _ h => h
  have hF := a_wA hD hS hA
  have hM := hC l D kA ad H.size
  refine a_go (va_runV (As := as.map (a_cv ad)) (rest := rest.map (a_cv ad)) (b := ad b0) ⟨hx, hbc, hml, hown, hts⟩ hM (cwV n hts hG rfl rfl rfl hd hR) ⟨a_blind _ _ _ _ _ _, va_recv hK hP hcl he, a_pre _ hK hSx hA hP hD hS⟩ rfl (by rw [List.length_map]; exact hn) hl.1 (by rw [hst]; simp [a_cv]) (lv_room (by rw [a_cats]; exact hsum)) d hcs) hS hF ?_
  intro ad' H1 locs1 h1 h2 hP1 hD1 hS1
  have e0 : rest.map (a_cv ad) = rest.map (a_cv ad') := by
    refine List.map_congr_left (fun x hx => ?_)
    have := hrs x hx
    cases x with
    | ref i => exact absurd rfl (this i)
    | _ => rfl
  rw [e0, a_app]
  exact K p l e s m below meth c b D kA ad' H1 locs1 ls ⟨X.1, hK, fun c' h3 h4 => by rw [h1 c' (by omega)]; exact hSx c' h3 h4, by rw [h1 300 (by omega)]; exact hb3⟩ (by rw [a_lc_stb h1 hL]; exact hl) hP1 hD1 hS1
end LL

set_option maxRecDepth 100000 in
theorem kd_X7_all : Cond.code yX7_all cX7_all 2 (some .int) ∈ a_tbl := a_tbl_of (List.mem_of_getElem? (i := 779) rfl) rfl
set_option maxRecDepth 100000 in
theorem kd_X7_allApart : Cond.code yX7_allApart cX7_allApart 6 (some .int) ∈ a_tbl := a_tbl_of (List.mem_of_getElem? (i := 557) rfl) rfl
set_option maxRecDepth 100000 in
theorem kd_X7_apart : Cond.code yX7_apart cX7_apart 4 (some .int) ∈ a_tbl := a_tbl_of (List.mem_of_getElem? (i := 549) rfl) rfl
set_option maxRecDepth 100000 in
theorem kd_X7_as : Cond.code yX7_as cX7_as 3 (some .int) ∈ a_tbl := a_tbl_of (List.mem_of_getElem? (i := 449) rfl) rfl
set_option maxRecDepth 100000 in
theorem kd_X7_at : Cond.code yX7_at cX7_at 3 (some .int) ∈ a_tbl := a_tbl_of (List.mem_of_getElem? (i := 473) rfl) rfl
set_option maxRecDepth 100000 in
theorem kd_X7_bearing : Cond.code yX7_bearing cX7_bearing 4 (some .int) ∈ a_tbl := a_tbl_of (List.mem_of_getElem? (i := 581) rfl) rfl
set_option maxRecDepth 100000 in
theorem kd_X7_clear : Cond.code yX7_clear cX7_clear 3 (some .int) ∈ a_tbl := a_tbl_of (List.mem_of_getElem? (i := 585) rfl) rfl
set_option maxRecDepth 100000 in
theorem kd_X7_colour : Cond.code yX7_colour cX7_colour 3 (some .int) ∈ a_tbl := a_tbl_of (List.mem_of_getElem? (i := 507) rfl) rfl
set_option maxRecDepth 100000 in
theorem kd_X7_copy : Cond.code yX7_copy cX7_copy 8 (some .int) ∈ a_tbl := a_tbl_of (List.mem_of_getElem? (i := 756) rfl) rfl
set_option maxRecDepth 100000 in
theorem kd_X7_day : Cond.code yX7_day cX7_day 3 (some .int) ∈ a_tbl := a_tbl_of (List.mem_of_getElem? (i := 542) rfl) rfl
set_option maxRecDepth 100000 in
theorem kd_X7_direction : Cond.code yX7_direction cX7_direction 3 (some .int) ∈ a_tbl := a_tbl_of (List.mem_of_getElem? (i := 495) rfl) rfl
set_option maxRecDepth 100000 in
theorem kd_X7_doubt : Cond.code yX7_doubt cX7_doubt 5 (some .int) ∈ a_tbl := a_tbl_of (List.mem_of_getElem? (i := 491) rfl) rfl
set_option maxRecDepth 100000 in
theorem kd_X7_fairway : Cond.code yX7_fairway cX7_fairway 4 (some .int) ∈ a_tbl := a_tbl_of (List.mem_of_getElem? (i := 617) rfl) rfl
set_option maxRecDepth 100000 in
theorem kd_X7_feed : Cond.code yX7_feed cX7_feed 4 (some .int) ∈ a_tbl := a_tbl_of (List.mem_of_getElem? (i := 356) rfl) rfl
set_option maxRecDepth 100000 in
theorem kd_X7_fits : Cond.code yX7_fits cX7_fits 7 (some .int) ∈ a_tbl := a_tbl_of (List.mem_of_getElem? (i := 565) rfl) rfl
set_option maxRecDepth 100000 in
theorem kd_X7_fix : Cond.code yX7_fix cX7_fix 4 (some .int) ∈ a_tbl := a_tbl_of (List.mem_of_getElem? (i := 592) rfl) rfl
set_option maxRecDepth 100000 in
theorem kd_X7_haze : Cond.code yX7_haze cX7_haze 3 (some .int) ∈ a_tbl := a_tbl_of (List.mem_of_getElem? (i := 538) rfl) rfl
set_option maxRecDepth 100000 in
theorem kd_X7_keeper : Cond.code yX7_keeper cX7_keeper 5 (some .int) ∈ a_tbl := a_tbl_of (List.mem_of_getElem? (i := 662) rfl) rfl
set_option maxRecDepth 100000 in
theorem kd_X7_kept : Cond.code yX7_kept cX7_kept 5 (some .int) ∈ a_tbl := a_tbl_of (List.mem_of_getElem? (i := 629) rfl) rfl
set_option maxRecDepth 100000 in
theorem kd_X7_landing : Cond.code yX7_landing cX7_landing 3 (some .int) ∈ a_tbl := a_tbl_of (List.mem_of_getElem? (i := 726) rfl) rfl
set_option maxRecDepth 100000 in
theorem kd_X7_light : Cond.code yX7_light cX7_light 5 (some .int) ∈ a_tbl := a_tbl_of (List.mem_of_getElem? (i := 371) rfl) rfl
set_option maxRecDepth 100000 in
theorem kd_X7_lightIs : Cond.code yX7_lightIs cX7_lightIs 4 (some .int) ∈ a_tbl := a_tbl_of (List.mem_of_getElem? (i := 463) rfl) rfl
set_option maxRecDepth 100000 in
theorem kd_X7_limit : Cond.code yX7_limit cX7_limit 5 (some .int) ∈ a_tbl := a_tbl_of (List.mem_of_getElem? (i := 670) rfl) rfl
set_option maxRecDepth 100000 in
theorem kd_X7_may : Cond.code yX7_may cX7_may 2 (some .int) ∈ a_tbl := a_tbl_of (List.mem_of_getElem? (i := 613) rfl) rfl
set_option maxRecDepth 100000 in
theorem kd_X7_out : Cond.code yX7_out cX7_out 4 (some .int) ∈ a_tbl := a_tbl_of (List.mem_of_getElem? (i := 658) rfl) rfl
set_option maxRecDepth 100000 in
theorem kd_X7_overdue : Cond.code yX7_overdue cX7_overdue 1 (some .int) ∈ a_tbl := a_tbl_of (List.mem_of_getElem? (i := 678) rfl) rfl
set_option maxRecDepth 100000 in
theorem kd_X7_proves : Cond.code yX7_proves cX7_proves 3 (some .int) ∈ a_tbl := a_tbl_of (List.mem_of_getElem? (i := 730) rfl) rfl
set_option maxRecDepth 100000 in
theorem kd_X7_put : Cond.code yX7_put cX7_put 5 (some .int) ∈ a_tbl := a_tbl_of (List.mem_of_getElem? (i := 748) rfl) rfl
set_option maxRecDepth 100000 in
theorem kd_X7_seas : Cond.code yX7_seas cX7_seas 7 (some .int) ∈ a_tbl := a_tbl_of (List.mem_of_getElem? (i := 674) rfl) rfl
set_option maxRecDepth 100000 in
theorem kd_X7_sector : Cond.code yX7_sector cX7_sector 6 (some .int) ∈ a_tbl := a_tbl_of (List.mem_of_getElem? (i := 481) rfl) rfl
set_option maxRecDepth 100000 in
theorem kd_X7_seen : Cond.code yX7_seen cX7_seen 2 (some .int) ∈ a_tbl := a_tbl_of (List.mem_of_getElem? (i := 518) rfl) rfl
set_option maxRecDepth 100000 in
theorem kd_X7_sheet : Cond.code yX7_sheet cX7_sheet 5 (some .int) ∈ a_tbl := a_tbl_of (List.mem_of_getElem? (i := 740) rfl) rfl
set_option maxRecDepth 100000 in
theorem kd_X7_undo : Cond.code yX7_undo cX7_undo 2 (some .int) ∈ a_tbl := a_tbl_of (List.mem_of_getElem? (i := 764) rfl) rfl
set_option maxRecDepth 100000 in
theorem kd_X7_word : Cond.code yX7_word cX7_word 7 (some .int) ∈ a_tbl := a_tbl_of (List.mem_of_getElem? (i := 643) rfl) rfl
set_option maxRecDepth 100000 in
theorem kd_X8_all : Cond.code yX8_all cX8_all 4 (some .int) ∈ a_tbl := a_tbl_of (List.mem_of_getElem? (i := 1144) rfl) rfl
set_option maxRecDepth 100000 in
theorem kd_X8_allApart : Cond.code yX8_allApart cX8_allApart 5 (some .int) ∈ a_tbl := a_tbl_of (List.mem_of_getElem? (i := 1019) rfl) rfl
set_option maxRecDepth 100000 in
theorem kd_X8_apart : Cond.code yX8_apart cX8_apart 4 (some .int) ∈ a_tbl := a_tbl_of (List.mem_of_getElem? (i := 1011) rfl) rfl
set_option maxRecDepth 100000 in
theorem kd_X8_as : Cond.code yX8_as cX8_as 4 (some .int) ∈ a_tbl := a_tbl_of (List.mem_of_getElem? (i := 916) rfl) rfl
set_option maxRecDepth 100000 in
theorem kd_X8_at : Cond.code yX8_at cX8_at 3 (some .int) ∈ a_tbl := a_tbl_of (List.mem_of_getElem? (i := 932) rfl) rfl
set_option maxRecDepth 100000 in
theorem kd_X8_bearing : Cond.code yX8_bearing cX8_bearing 5 (some .int) ∈ a_tbl := a_tbl_of (List.mem_of_getElem? (i := 1035) rfl) rfl
set_option maxRecDepth 100000 in
theorem kd_X8_clear : Cond.code yX8_clear cX8_clear 2 (some .int) ∈ a_tbl := a_tbl_of (List.mem_of_getElem? (i := 1039) rfl) rfl
set_option maxRecDepth 100000 in
theorem kd_X8_colour : Cond.code yX8_colour cX8_colour 3 (some .int) ∈ a_tbl := a_tbl_of (List.mem_of_getElem? (i := 971) rfl) rfl
set_option maxRecDepth 100000 in
theorem kd_X8_copy : Cond.code yX8_copy cX8_copy 7 (some .int) ∈ a_tbl := a_tbl_of (List.mem_of_getElem? (i := 1140) rfl) rfl
set_option maxRecDepth 100000 in
theorem kd_X8_day : Cond.code yX8_day cX8_day 2 (some .int) ∈ a_tbl := a_tbl_of (List.mem_of_getElem? (i := 1007) rfl) rfl
set_option maxRecDepth 100000 in
theorem kd_X8_direction : Cond.code yX8_direction cX8_direction 3 (some .int) ∈ a_tbl := a_tbl_of (List.mem_of_getElem? (i := 951) rfl) rfl
set_option maxRecDepth 100000 in
theorem kd_X8_doubt : Cond.code yX8_doubt cX8_doubt 4 (some .int) ∈ a_tbl := a_tbl_of (List.mem_of_getElem? (i := 947) rfl) rfl
set_option maxRecDepth 100000 in
theorem kd_X8_fairway : Cond.code yX8_fairway cX8_fairway 5 (some .int) ∈ a_tbl := a_tbl_of (List.mem_of_getElem? (i := 1060) rfl) rfl
set_option maxRecDepth 100000 in
theorem kd_X8_feed : Cond.code yX8_feed cX8_feed 5 (some .int) ∈ a_tbl := a_tbl_of (List.mem_of_getElem? (i := 860) rfl) rfl
set_option maxRecDepth 100000 in
theorem kd_X8_fits : Cond.code yX8_fits cX8_fits 5 (some .int) ∈ a_tbl := a_tbl_of (List.mem_of_getElem? (i := 1023) rfl) rfl
set_option maxRecDepth 100000 in
theorem kd_X8_fix : Cond.code yX8_fix cX8_fix 5 (some .int) ∈ a_tbl := a_tbl_of (List.mem_of_getElem? (i := 1043) rfl) rfl
set_option maxRecDepth 100000 in
theorem kd_X8_haze : Cond.code yX8_haze cX8_haze 2 (some .int) ∈ a_tbl := a_tbl_of (List.mem_of_getElem? (i := 999) rfl) rfl
set_option maxRecDepth 100000 in
theorem kd_X8_keeper : Cond.code yX8_keeper cX8_keeper 3 (some .int) ∈ a_tbl := a_tbl_of (List.mem_of_getElem? (i := 1076) rfl) rfl
set_option maxRecDepth 100000 in
theorem kd_X8_kept : Cond.code yX8_kept cX8_kept 5 (some .int) ∈ a_tbl := a_tbl_of (List.mem_of_getElem? (i := 1064) rfl) rfl
set_option maxRecDepth 100000 in
theorem kd_X8_landing : Cond.code yX8_landing cX8_landing 5 (some .int) ∈ a_tbl := a_tbl_of (List.mem_of_getElem? (i := 1120) rfl) rfl
set_option maxRecDepth 100000 in
theorem kd_X8_light : Cond.code yX8_light cX8_light 7 (some .int) ∈ a_tbl := a_tbl_of (List.mem_of_getElem? (i := 870) rfl) rfl
set_option maxRecDepth 100000 in
theorem kd_X8_lightIs : Cond.code yX8_lightIs cX8_lightIs 4 (some .int) ∈ a_tbl := a_tbl_of (List.mem_of_getElem? (i := 925) rfl) rfl
set_option maxRecDepth 100000 in
theorem kd_X8_limit : Cond.code yX8_limit cX8_limit 3 (some .int) ∈ a_tbl := a_tbl_of (List.mem_of_getElem? (i := 1088) rfl) rfl
set_option maxRecDepth 100000 in
theorem kd_X8_may : Cond.code yX8_may cX8_may 2 (some .int) ∈ a_tbl := a_tbl_of (List.mem_of_getElem? (i := 1056) rfl) rfl
set_option maxRecDepth 100000 in
theorem kd_X8_out : Cond.code yX8_out cX8_out 4 (some .int) ∈ a_tbl := a_tbl_of (List.mem_of_getElem? (i := 1072) rfl) rfl
set_option maxRecDepth 100000 in
theorem kd_X8_overdue : Cond.code yX8_overdue cX8_overdue 1 (some .int) ∈ a_tbl := a_tbl_of (List.mem_of_getElem? (i := 1096) rfl) rfl
set_option maxRecDepth 100000 in
theorem kd_X8_proves : Cond.code yX8_proves cX8_proves 7 (some .int) ∈ a_tbl := a_tbl_of (List.mem_of_getElem? (i := 1128) rfl) rfl
set_option maxRecDepth 100000 in
theorem kd_X8_put : Cond.code yX8_put cX8_put 5 (some .int) ∈ a_tbl := a_tbl_of (List.mem_of_getElem? (i := 1136) rfl) rfl
set_option maxRecDepth 100000 in
theorem kd_X8_seas : Cond.code yX8_seas cX8_seas 5 (some .int) ∈ a_tbl := a_tbl_of (List.mem_of_getElem? (i := 1092) rfl) rfl
set_option maxRecDepth 100000 in
theorem kd_X8_sector : Cond.code yX8_sector cX8_sector 7 (some .int) ∈ a_tbl := a_tbl_of (List.mem_of_getElem? (i := 940) rfl) rfl
set_option maxRecDepth 100000 in
theorem kd_X8_seen : Cond.code yX8_seen cX8_seen 2 (some .int) ∈ a_tbl := a_tbl_of (List.mem_of_getElem? (i := 982) rfl) rfl
set_option maxRecDepth 100000 in
theorem kd_X8_sheet : Cond.code yX8_sheet cX8_sheet 5 (some .int) ∈ a_tbl := a_tbl_of (List.mem_of_getElem? (i := 1132) rfl) rfl
set_option maxRecDepth 100000 in
theorem kd_X8_undo : Cond.code yX8_undo cX8_undo 2 (some .int) ∈ a_tbl := a_tbl_of (List.mem_of_getElem? (i := 851) rfl) rfl
set_option maxRecDepth 100000 in
theorem kd_X8_word : Cond.code yX8_word cX8_word 6 (some .int) ∈ a_tbl := a_tbl_of (List.mem_of_getElem? (i := 1068) rfl) rfl
set_option maxRecDepth 100000 in
theorem kin_X7_all : Cond.instanceMethod yX7_all ∈ a_tbl := a_tbl_of (List.mem_of_getElem? (i := 777) rfl) rfl
set_option maxRecDepth 100000 in
theorem kin_X7_allApart : Cond.instanceMethod yX7_allApart ∈ a_tbl := a_tbl_of (List.mem_of_getElem? (i := 555) rfl) rfl
set_option maxRecDepth 100000 in
theorem kin_X7_apart : Cond.instanceMethod yX7_apart ∈ a_tbl := a_tbl_of (List.mem_of_getElem? (i := 547) rfl) rfl
set_option maxRecDepth 100000 in
theorem kin_X7_as : Cond.instanceMethod yX7_as ∈ a_tbl := a_tbl_of (List.mem_of_getElem? (i := 447) rfl) rfl
set_option maxRecDepth 100000 in
theorem kin_X7_at : Cond.instanceMethod yX7_at ∈ a_tbl := a_tbl_of (List.mem_of_getElem? (i := 471) rfl) rfl
set_option maxRecDepth 100000 in
theorem kin_X7_bearing : Cond.instanceMethod yX7_bearing ∈ a_tbl := a_tbl_of (List.mem_of_getElem? (i := 579) rfl) rfl
set_option maxRecDepth 100000 in
theorem kin_X7_clear : Cond.instanceMethod yX7_clear ∈ a_tbl := a_tbl_of (List.mem_of_getElem? (i := 583) rfl) rfl
set_option maxRecDepth 100000 in
theorem kin_X7_colour : Cond.instanceMethod yX7_colour ∈ a_tbl := a_tbl_of (List.mem_of_getElem? (i := 505) rfl) rfl
set_option maxRecDepth 100000 in
theorem kin_X7_copy : Cond.instanceMethod yX7_copy ∈ a_tbl := a_tbl_of (List.mem_of_getElem? (i := 754) rfl) rfl
set_option maxRecDepth 100000 in
theorem kin_X7_day : Cond.instanceMethod yX7_day ∈ a_tbl := a_tbl_of (List.mem_of_getElem? (i := 540) rfl) rfl
set_option maxRecDepth 100000 in
theorem kin_X7_direction : Cond.instanceMethod yX7_direction ∈ a_tbl := a_tbl_of (List.mem_of_getElem? (i := 493) rfl) rfl
set_option maxRecDepth 100000 in
theorem kin_X7_doubt : Cond.instanceMethod yX7_doubt ∈ a_tbl := a_tbl_of (List.mem_of_getElem? (i := 489) rfl) rfl
set_option maxRecDepth 100000 in
theorem kin_X7_fairway : Cond.instanceMethod yX7_fairway ∈ a_tbl := a_tbl_of (List.mem_of_getElem? (i := 615) rfl) rfl
set_option maxRecDepth 100000 in
theorem kin_X7_feed : Cond.instanceMethod yX7_feed ∈ a_tbl := a_tbl_of (List.mem_of_getElem? (i := 354) rfl) rfl
set_option maxRecDepth 100000 in
theorem kin_X7_fits : Cond.instanceMethod yX7_fits ∈ a_tbl := a_tbl_of (List.mem_of_getElem? (i := 563) rfl) rfl
set_option maxRecDepth 100000 in
theorem kin_X7_fix : Cond.instanceMethod yX7_fix ∈ a_tbl := a_tbl_of (List.mem_of_getElem? (i := 590) rfl) rfl
set_option maxRecDepth 100000 in
theorem kin_X7_haze : Cond.instanceMethod yX7_haze ∈ a_tbl := a_tbl_of (List.mem_of_getElem? (i := 536) rfl) rfl
set_option maxRecDepth 100000 in
theorem kin_X7_keeper : Cond.instanceMethod yX7_keeper ∈ a_tbl := a_tbl_of (List.mem_of_getElem? (i := 660) rfl) rfl
set_option maxRecDepth 100000 in
theorem kin_X7_kept : Cond.instanceMethod yX7_kept ∈ a_tbl := a_tbl_of (List.mem_of_getElem? (i := 627) rfl) rfl
set_option maxRecDepth 100000 in
theorem kin_X7_landing : Cond.instanceMethod yX7_landing ∈ a_tbl := a_tbl_of (List.mem_of_getElem? (i := 724) rfl) rfl
set_option maxRecDepth 100000 in
theorem kin_X7_light : Cond.instanceMethod yX7_light ∈ a_tbl := a_tbl_of (List.mem_of_getElem? (i := 369) rfl) rfl
set_option maxRecDepth 100000 in
theorem kin_X7_lightIs : Cond.instanceMethod yX7_lightIs ∈ a_tbl := a_tbl_of (List.mem_of_getElem? (i := 461) rfl) rfl
set_option maxRecDepth 100000 in
theorem kin_X7_limit : Cond.instanceMethod yX7_limit ∈ a_tbl := a_tbl_of (List.mem_of_getElem? (i := 668) rfl) rfl
set_option maxRecDepth 100000 in
theorem kin_X7_may : Cond.instanceMethod yX7_may ∈ a_tbl := a_tbl_of (List.mem_of_getElem? (i := 611) rfl) rfl
set_option maxRecDepth 100000 in
theorem kin_X7_out : Cond.instanceMethod yX7_out ∈ a_tbl := a_tbl_of (List.mem_of_getElem? (i := 656) rfl) rfl
set_option maxRecDepth 100000 in
theorem kin_X7_overdue : Cond.instanceMethod yX7_overdue ∈ a_tbl := a_tbl_of (List.mem_of_getElem? (i := 676) rfl) rfl
set_option maxRecDepth 100000 in
theorem kin_X7_proves : Cond.instanceMethod yX7_proves ∈ a_tbl := a_tbl_of (List.mem_of_getElem? (i := 728) rfl) rfl
set_option maxRecDepth 100000 in
theorem kin_X7_put : Cond.instanceMethod yX7_put ∈ a_tbl := a_tbl_of (List.mem_of_getElem? (i := 746) rfl) rfl
set_option maxRecDepth 100000 in
theorem kin_X7_seas : Cond.instanceMethod yX7_seas ∈ a_tbl := a_tbl_of (List.mem_of_getElem? (i := 672) rfl) rfl
set_option maxRecDepth 100000 in
theorem kin_X7_sector : Cond.instanceMethod yX7_sector ∈ a_tbl := a_tbl_of (List.mem_of_getElem? (i := 479) rfl) rfl
set_option maxRecDepth 100000 in
theorem kin_X7_seen : Cond.instanceMethod yX7_seen ∈ a_tbl := a_tbl_of (List.mem_of_getElem? (i := 516) rfl) rfl
set_option maxRecDepth 100000 in
theorem kin_X7_sheet : Cond.instanceMethod yX7_sheet ∈ a_tbl := a_tbl_of (List.mem_of_getElem? (i := 738) rfl) rfl
set_option maxRecDepth 100000 in
theorem kin_X7_undo : Cond.instanceMethod yX7_undo ∈ a_tbl := a_tbl_of (List.mem_of_getElem? (i := 762) rfl) rfl
set_option maxRecDepth 100000 in
theorem kin_X7_word : Cond.instanceMethod yX7_word ∈ a_tbl := a_tbl_of (List.mem_of_getElem? (i := 641) rfl) rfl
set_option maxRecDepth 100000 in
theorem kin_X8_all : Cond.instanceMethod yX8_all ∈ a_tbl := a_tbl_of (List.mem_of_getElem? (i := 1142) rfl) rfl
set_option maxRecDepth 100000 in
theorem kin_X8_allApart : Cond.instanceMethod yX8_allApart ∈ a_tbl := a_tbl_of (List.mem_of_getElem? (i := 1017) rfl) rfl
set_option maxRecDepth 100000 in
theorem kin_X8_apart : Cond.instanceMethod yX8_apart ∈ a_tbl := a_tbl_of (List.mem_of_getElem? (i := 1009) rfl) rfl
set_option maxRecDepth 100000 in
theorem kin_X8_as : Cond.instanceMethod yX8_as ∈ a_tbl := a_tbl_of (List.mem_of_getElem? (i := 914) rfl) rfl
set_option maxRecDepth 100000 in
theorem kin_X8_at : Cond.instanceMethod yX8_at ∈ a_tbl := a_tbl_of (List.mem_of_getElem? (i := 930) rfl) rfl
set_option maxRecDepth 100000 in
theorem kin_X8_bearing : Cond.instanceMethod yX8_bearing ∈ a_tbl := a_tbl_of (List.mem_of_getElem? (i := 1033) rfl) rfl
set_option maxRecDepth 100000 in
theorem kin_X8_clear : Cond.instanceMethod yX8_clear ∈ a_tbl := a_tbl_of (List.mem_of_getElem? (i := 1037) rfl) rfl
set_option maxRecDepth 100000 in
theorem kin_X8_colour : Cond.instanceMethod yX8_colour ∈ a_tbl := a_tbl_of (List.mem_of_getElem? (i := 969) rfl) rfl
set_option maxRecDepth 100000 in
theorem kin_X8_copy : Cond.instanceMethod yX8_copy ∈ a_tbl := a_tbl_of (List.mem_of_getElem? (i := 1138) rfl) rfl
set_option maxRecDepth 100000 in
theorem kin_X8_day : Cond.instanceMethod yX8_day ∈ a_tbl := a_tbl_of (List.mem_of_getElem? (i := 1005) rfl) rfl
set_option maxRecDepth 100000 in
theorem kin_X8_direction : Cond.instanceMethod yX8_direction ∈ a_tbl := a_tbl_of (List.mem_of_getElem? (i := 949) rfl) rfl
set_option maxRecDepth 100000 in
theorem kin_X8_doubt : Cond.instanceMethod yX8_doubt ∈ a_tbl := a_tbl_of (List.mem_of_getElem? (i := 945) rfl) rfl
set_option maxRecDepth 100000 in
theorem kin_X8_fairway : Cond.instanceMethod yX8_fairway ∈ a_tbl := a_tbl_of (List.mem_of_getElem? (i := 1058) rfl) rfl
set_option maxRecDepth 100000 in
theorem kin_X8_feed : Cond.instanceMethod yX8_feed ∈ a_tbl := a_tbl_of (List.mem_of_getElem? (i := 858) rfl) rfl
set_option maxRecDepth 100000 in
theorem kin_X8_fits : Cond.instanceMethod yX8_fits ∈ a_tbl := a_tbl_of (List.mem_of_getElem? (i := 1021) rfl) rfl
set_option maxRecDepth 100000 in
theorem kin_X8_fix : Cond.instanceMethod yX8_fix ∈ a_tbl := a_tbl_of (List.mem_of_getElem? (i := 1041) rfl) rfl
set_option maxRecDepth 100000 in
theorem kin_X8_haze : Cond.instanceMethod yX8_haze ∈ a_tbl := a_tbl_of (List.mem_of_getElem? (i := 997) rfl) rfl
set_option maxRecDepth 100000 in
theorem kin_X8_keeper : Cond.instanceMethod yX8_keeper ∈ a_tbl := a_tbl_of (List.mem_of_getElem? (i := 1074) rfl) rfl
set_option maxRecDepth 100000 in
theorem kin_X8_kept : Cond.instanceMethod yX8_kept ∈ a_tbl := a_tbl_of (List.mem_of_getElem? (i := 1062) rfl) rfl
set_option maxRecDepth 100000 in
theorem kin_X8_landing : Cond.instanceMethod yX8_landing ∈ a_tbl := a_tbl_of (List.mem_of_getElem? (i := 1118) rfl) rfl
set_option maxRecDepth 100000 in
theorem kin_X8_light : Cond.instanceMethod yX8_light ∈ a_tbl := a_tbl_of (List.mem_of_getElem? (i := 868) rfl) rfl
set_option maxRecDepth 100000 in
theorem kin_X8_lightIs : Cond.instanceMethod yX8_lightIs ∈ a_tbl := a_tbl_of (List.mem_of_getElem? (i := 923) rfl) rfl
set_option maxRecDepth 100000 in
theorem kin_X8_limit : Cond.instanceMethod yX8_limit ∈ a_tbl := a_tbl_of (List.mem_of_getElem? (i := 1086) rfl) rfl
set_option maxRecDepth 100000 in
theorem kin_X8_may : Cond.instanceMethod yX8_may ∈ a_tbl := a_tbl_of (List.mem_of_getElem? (i := 1054) rfl) rfl
set_option maxRecDepth 100000 in
theorem kin_X8_out : Cond.instanceMethod yX8_out ∈ a_tbl := a_tbl_of (List.mem_of_getElem? (i := 1070) rfl) rfl
set_option maxRecDepth 100000 in
theorem kin_X8_overdue : Cond.instanceMethod yX8_overdue ∈ a_tbl := a_tbl_of (List.mem_of_getElem? (i := 1094) rfl) rfl
set_option maxRecDepth 100000 in
theorem kin_X8_proves : Cond.instanceMethod yX8_proves ∈ a_tbl := a_tbl_of (List.mem_of_getElem? (i := 1126) rfl) rfl
set_option maxRecDepth 100000 in
theorem kin_X8_put : Cond.instanceMethod yX8_put ∈ a_tbl := a_tbl_of (List.mem_of_getElem? (i := 1134) rfl) rfl
set_option maxRecDepth 100000 in
theorem kin_X8_seas : Cond.instanceMethod yX8_seas ∈ a_tbl := a_tbl_of (List.mem_of_getElem? (i := 1090) rfl) rfl
set_option maxRecDepth 100000 in
theorem kin_X8_sector : Cond.instanceMethod yX8_sector ∈ a_tbl := a_tbl_of (List.mem_of_getElem? (i := 938) rfl) rfl
set_option maxRecDepth 100000 in
theorem kin_X8_seen : Cond.instanceMethod yX8_seen ∈ a_tbl := a_tbl_of (List.mem_of_getElem? (i := 980) rfl) rfl
set_option maxRecDepth 100000 in
theorem kin_X8_sheet : Cond.instanceMethod yX8_sheet ∈ a_tbl := a_tbl_of (List.mem_of_getElem? (i := 1130) rfl) rfl
set_option maxRecDepth 100000 in
theorem kin_X8_undo : Cond.instanceMethod yX8_undo ∈ a_tbl := a_tbl_of (List.mem_of_getElem? (i := 849) rfl) rfl
set_option maxRecDepth 100000 in
theorem kin_X8_word : Cond.instanceMethod yX8_word ∈ a_tbl := a_tbl_of (List.mem_of_getElem? (i := 1066) rfl) rfl
set_option maxRecDepth 100000 in
theorem kmL_102 : Cond.methodLink RL 102 yX8_fairway ∈ a_tbl := a_tbl_of (List.mem_of_getElem? (i := 1057) rfl) rfl
set_option maxRecDepth 100000 in
theorem kmL_103 : Cond.methodLink RL 103 yX7_kept ∈ a_tbl := a_tbl_of (List.mem_of_getElem? (i := 626) rfl) rfl
set_option maxRecDepth 100000 in
theorem kmL_106 : Cond.methodLink RL 106 yX8_kept ∈ a_tbl := a_tbl_of (List.mem_of_getElem? (i := 1061) rfl) rfl
set_option maxRecDepth 100000 in
theorem kmL_107 : Cond.methodLink RL 107 yX7_word ∈ a_tbl := a_tbl_of (List.mem_of_getElem? (i := 640) rfl) rfl
set_option maxRecDepth 100000 in
theorem kmL_111 : Cond.methodLink RL 111 yX8_word ∈ a_tbl := a_tbl_of (List.mem_of_getElem? (i := 1065) rfl) rfl
set_option maxRecDepth 100000 in
theorem kmL_112 : Cond.methodLink RL 112 yX7_out ∈ a_tbl := a_tbl_of (List.mem_of_getElem? (i := 655) rfl) rfl
set_option maxRecDepth 100000 in
theorem kmL_115 : Cond.methodLink RL 115 yX8_out ∈ a_tbl := a_tbl_of (List.mem_of_getElem? (i := 1069) rfl) rfl
set_option maxRecDepth 100000 in
theorem kmL_116 : Cond.methodLink RL 116 yX7_keeper ∈ a_tbl := a_tbl_of (List.mem_of_getElem? (i := 659) rfl) rfl
set_option maxRecDepth 100000 in
theorem kmL_119 : Cond.methodLink RL 119 yX8_keeper ∈ a_tbl := a_tbl_of (List.mem_of_getElem? (i := 1073) rfl) rfl
set_option maxRecDepth 100000 in
theorem kmL_120 : Cond.methodLink RL 120 yX7_limit ∈ a_tbl := a_tbl_of (List.mem_of_getElem? (i := 667) rfl) rfl
set_option maxRecDepth 100000 in
theorem kmL_123 : Cond.methodLink RL 123 yX8_limit ∈ a_tbl := a_tbl_of (List.mem_of_getElem? (i := 1085) rfl) rfl
set_option maxRecDepth 100000 in
theorem kmL_124 : Cond.methodLink RL 124 yX7_seas ∈ a_tbl := a_tbl_of (List.mem_of_getElem? (i := 671) rfl) rfl
set_option maxRecDepth 100000 in
theorem kmL_127 : Cond.methodLink RL 127 yX8_seas ∈ a_tbl := a_tbl_of (List.mem_of_getElem? (i := 1089) rfl) rfl
set_option maxRecDepth 100000 in
theorem kmL_128 : Cond.methodLink RL 128 yX7_overdue ∈ a_tbl := a_tbl_of (List.mem_of_getElem? (i := 675) rfl) rfl
set_option maxRecDepth 100000 in
theorem kmL_131 : Cond.methodLink RL 131 yX8_overdue ∈ a_tbl := a_tbl_of (List.mem_of_getElem? (i := 1093) rfl) rfl
set_option maxRecDepth 100000 in
theorem kmL_132 : Cond.methodLink RL 132 yX7_landing ∈ a_tbl := a_tbl_of (List.mem_of_getElem? (i := 723) rfl) rfl
set_option maxRecDepth 100000 in
theorem kmL_135 : Cond.methodLink RL 135 yX8_landing ∈ a_tbl := a_tbl_of (List.mem_of_getElem? (i := 1117) rfl) rfl
set_option maxRecDepth 100000 in
theorem kmL_136 : Cond.methodLink RL 136 yX7_proves ∈ a_tbl := a_tbl_of (List.mem_of_getElem? (i := 727) rfl) rfl
set_option maxRecDepth 100000 in
theorem kmL_139 : Cond.methodLink RL 139 yX8_proves ∈ a_tbl := a_tbl_of (List.mem_of_getElem? (i := 1125) rfl) rfl
set_option maxRecDepth 100000 in
theorem kmL_140 : Cond.methodLink RL 140 yX7_sheet ∈ a_tbl := a_tbl_of (List.mem_of_getElem? (i := 737) rfl) rfl
set_option maxRecDepth 100000 in
theorem kmL_143 : Cond.methodLink RL 143 yX8_sheet ∈ a_tbl := a_tbl_of (List.mem_of_getElem? (i := 1129) rfl) rfl
set_option maxRecDepth 100000 in
theorem kmL_144 : Cond.methodLink RL 144 yX7_put ∈ a_tbl := a_tbl_of (List.mem_of_getElem? (i := 745) rfl) rfl
set_option maxRecDepth 100000 in
theorem kmL_147 : Cond.methodLink RL 147 yX8_put ∈ a_tbl := a_tbl_of (List.mem_of_getElem? (i := 1133) rfl) rfl
set_option maxRecDepth 100000 in
theorem kmL_148 : Cond.methodLink RL 148 yX7_copy ∈ a_tbl := a_tbl_of (List.mem_of_getElem? (i := 753) rfl) rfl
set_option maxRecDepth 100000 in
theorem kmL_15 : Cond.methodLink RL 15 yX7_feed ∈ a_tbl := a_tbl_of (List.mem_of_getElem? (i := 353) rfl) rfl
set_option maxRecDepth 100000 in
theorem kmL_152 : Cond.methodLink RL 152 yX8_copy ∈ a_tbl := a_tbl_of (List.mem_of_getElem? (i := 1137) rfl) rfl
set_option maxRecDepth 100000 in
theorem kmL_153 : Cond.methodLink RL 153 yX7_undo ∈ a_tbl := a_tbl_of (List.mem_of_getElem? (i := 761) rfl) rfl
set_option maxRecDepth 100000 in
theorem kmL_156 : Cond.methodLink RL 156 yX8_undo ∈ a_tbl := a_tbl_of (List.mem_of_getElem? (i := 848) rfl) rfl
set_option maxRecDepth 100000 in
theorem kmL_157 : Cond.methodLink RL 157 yX7_all ∈ a_tbl := a_tbl_of (List.mem_of_getElem? (i := 776) rfl) rfl
set_option maxRecDepth 100000 in
theorem kmL_160 : Cond.methodLink RL 160 yX8_all ∈ a_tbl := a_tbl_of (List.mem_of_getElem? (i := 1141) rfl) rfl
set_option maxRecDepth 100000 in
theorem kmL_19 : Cond.methodLink RL 19 yX8_feed ∈ a_tbl := a_tbl_of (List.mem_of_getElem? (i := 857) rfl) rfl
set_option maxRecDepth 100000 in
theorem kmL_20 : Cond.methodLink RL 20 yX7_light ∈ a_tbl := a_tbl_of (List.mem_of_getElem? (i := 368) rfl) rfl
set_option maxRecDepth 100000 in
theorem kmL_24 : Cond.methodLink RL 24 yX8_light ∈ a_tbl := a_tbl_of (List.mem_of_getElem? (i := 867) rfl) rfl
set_option maxRecDepth 100000 in
theorem kmL_25 : Cond.methodLink RL 25 yX7_as ∈ a_tbl := a_tbl_of (List.mem_of_getElem? (i := 446) rfl) rfl
set_option maxRecDepth 100000 in
theorem kmL_29 : Cond.methodLink RL 29 yX8_as ∈ a_tbl := a_tbl_of (List.mem_of_getElem? (i := 913) rfl) rfl
set_option maxRecDepth 100000 in
theorem kmL_30 : Cond.methodLink RL 30 yX7_lightIs ∈ a_tbl := a_tbl_of (List.mem_of_getElem? (i := 460) rfl) rfl
set_option maxRecDepth 100000 in
theorem kmL_33 : Cond.methodLink RL 33 yX8_lightIs ∈ a_tbl := a_tbl_of (List.mem_of_getElem? (i := 922) rfl) rfl
set_option maxRecDepth 100000 in
theorem kmL_34 : Cond.methodLink RL 34 yX7_at ∈ a_tbl := a_tbl_of (List.mem_of_getElem? (i := 470) rfl) rfl
set_option maxRecDepth 100000 in
theorem kmL_37 : Cond.methodLink RL 37 yX8_at ∈ a_tbl := a_tbl_of (List.mem_of_getElem? (i := 929) rfl) rfl
set_option maxRecDepth 100000 in
theorem kmL_38 : Cond.methodLink RL 38 yX7_sector ∈ a_tbl := a_tbl_of (List.mem_of_getElem? (i := 478) rfl) rfl
set_option maxRecDepth 100000 in
theorem kmL_42 : Cond.methodLink RL 42 yX8_sector ∈ a_tbl := a_tbl_of (List.mem_of_getElem? (i := 937) rfl) rfl
set_option maxRecDepth 100000 in
theorem kmL_43 : Cond.methodLink RL 43 yX7_doubt ∈ a_tbl := a_tbl_of (List.mem_of_getElem? (i := 488) rfl) rfl
set_option maxRecDepth 100000 in
theorem kmL_46 : Cond.methodLink RL 46 yX8_doubt ∈ a_tbl := a_tbl_of (List.mem_of_getElem? (i := 944) rfl) rfl
set_option maxRecDepth 100000 in
theorem kmL_47 : Cond.methodLink RL 47 yX7_direction ∈ a_tbl := a_tbl_of (List.mem_of_getElem? (i := 492) rfl) rfl
set_option maxRecDepth 100000 in
theorem kmL_50 : Cond.methodLink RL 50 yX8_direction ∈ a_tbl := a_tbl_of (List.mem_of_getElem? (i := 948) rfl) rfl
set_option maxRecDepth 100000 in
theorem kmL_51 : Cond.methodLink RL 51 yX7_colour ∈ a_tbl := a_tbl_of (List.mem_of_getElem? (i := 504) rfl) rfl
set_option maxRecDepth 100000 in
theorem kmL_54 : Cond.methodLink RL 54 yX8_colour ∈ a_tbl := a_tbl_of (List.mem_of_getElem? (i := 968) rfl) rfl
set_option maxRecDepth 100000 in
theorem kmL_55 : Cond.methodLink RL 55 yX7_seen ∈ a_tbl := a_tbl_of (List.mem_of_getElem? (i := 515) rfl) rfl
set_option maxRecDepth 100000 in
theorem kmL_59 : Cond.methodLink RL 59 yX8_seen ∈ a_tbl := a_tbl_of (List.mem_of_getElem? (i := 979) rfl) rfl
set_option maxRecDepth 100000 in
theorem kmL_60 : Cond.methodLink RL 60 yX7_haze ∈ a_tbl := a_tbl_of (List.mem_of_getElem? (i := 535) rfl) rfl
set_option maxRecDepth 100000 in
theorem kmL_63 : Cond.methodLink RL 63 yX8_haze ∈ a_tbl := a_tbl_of (List.mem_of_getElem? (i := 996) rfl) rfl
set_option maxRecDepth 100000 in
theorem kmL_64 : Cond.methodLink RL 64 yX7_day ∈ a_tbl := a_tbl_of (List.mem_of_getElem? (i := 539) rfl) rfl
set_option maxRecDepth 100000 in
theorem kmL_67 : Cond.methodLink RL 67 yX8_day ∈ a_tbl := a_tbl_of (List.mem_of_getElem? (i := 1004) rfl) rfl
set_option maxRecDepth 100000 in
theorem kmL_68 : Cond.methodLink RL 68 yX7_apart ∈ a_tbl := a_tbl_of (List.mem_of_getElem? (i := 546) rfl) rfl
set_option maxRecDepth 100000 in
theorem kmL_71 : Cond.methodLink RL 71 yX8_apart ∈ a_tbl := a_tbl_of (List.mem_of_getElem? (i := 1008) rfl) rfl
set_option maxRecDepth 100000 in
theorem kmL_72 : Cond.methodLink RL 72 yX7_allApart ∈ a_tbl := a_tbl_of (List.mem_of_getElem? (i := 554) rfl) rfl
set_option maxRecDepth 100000 in
theorem kmL_75 : Cond.methodLink RL 75 yX8_allApart ∈ a_tbl := a_tbl_of (List.mem_of_getElem? (i := 1016) rfl) rfl
set_option maxRecDepth 100000 in
theorem kmL_76 : Cond.methodLink RL 76 yX7_fits ∈ a_tbl := a_tbl_of (List.mem_of_getElem? (i := 562) rfl) rfl
set_option maxRecDepth 100000 in
theorem kmL_79 : Cond.methodLink RL 79 yX8_fits ∈ a_tbl := a_tbl_of (List.mem_of_getElem? (i := 1020) rfl) rfl
set_option maxRecDepth 100000 in
theorem kmL_80 : Cond.methodLink RL 80 yX7_bearing ∈ a_tbl := a_tbl_of (List.mem_of_getElem? (i := 578) rfl) rfl
set_option maxRecDepth 100000 in
theorem kmL_83 : Cond.methodLink RL 83 yX8_bearing ∈ a_tbl := a_tbl_of (List.mem_of_getElem? (i := 1032) rfl) rfl
set_option maxRecDepth 100000 in
theorem kmL_84 : Cond.methodLink RL 84 yX7_clear ∈ a_tbl := a_tbl_of (List.mem_of_getElem? (i := 582) rfl) rfl
set_option maxRecDepth 100000 in
theorem kmL_88 : Cond.methodLink RL 88 yX8_clear ∈ a_tbl := a_tbl_of (List.mem_of_getElem? (i := 1036) rfl) rfl
set_option maxRecDepth 100000 in
theorem kmL_89 : Cond.methodLink RL 89 yX7_fix ∈ a_tbl := a_tbl_of (List.mem_of_getElem? (i := 589) rfl) rfl
set_option maxRecDepth 100000 in
theorem kmL_93 : Cond.methodLink RL 93 yX8_fix ∈ a_tbl := a_tbl_of (List.mem_of_getElem? (i := 1040) rfl) rfl
set_option maxRecDepth 100000 in
theorem kmL_94 : Cond.methodLink RL 94 yX7_may ∈ a_tbl := a_tbl_of (List.mem_of_getElem? (i := 610) rfl) rfl
set_option maxRecDepth 100000 in
theorem kmL_97 : Cond.methodLink RL 97 yX8_may ∈ a_tbl := a_tbl_of (List.mem_of_getElem? (i := 1053) rfl) rfl
set_option maxRecDepth 100000 in
theorem kmL_98 : Cond.methodLink RL 98 yX7_fairway ∈ a_tbl := a_tbl_of (List.mem_of_getElem? (i := 614) rfl) rfl
set_option maxRecDepth 100000 in
theorem ks_X7_all : Cond.selects RX7 yX7_all yX7_all ∈ a_tbl := a_tbl_of (List.mem_of_getElem? (i := 778) rfl) rfl
set_option maxRecDepth 100000 in
theorem ks_X7_allApart : Cond.selects RX7 yX7_allApart yX7_allApart ∈ a_tbl := a_tbl_of (List.mem_of_getElem? (i := 556) rfl) rfl
set_option maxRecDepth 100000 in
theorem ks_X7_apart : Cond.selects RX7 yX7_apart yX7_apart ∈ a_tbl := a_tbl_of (List.mem_of_getElem? (i := 548) rfl) rfl
set_option maxRecDepth 100000 in
theorem ks_X7_as : Cond.selects RX7 yX7_as yX7_as ∈ a_tbl := a_tbl_of (List.mem_of_getElem? (i := 448) rfl) rfl
set_option maxRecDepth 100000 in
theorem ks_X7_at : Cond.selects RX7 yX7_at yX7_at ∈ a_tbl := a_tbl_of (List.mem_of_getElem? (i := 472) rfl) rfl
set_option maxRecDepth 100000 in
theorem ks_X7_bearing : Cond.selects RX7 yX7_bearing yX7_bearing ∈ a_tbl := a_tbl_of (List.mem_of_getElem? (i := 580) rfl) rfl
set_option maxRecDepth 100000 in
theorem ks_X7_clear : Cond.selects RX7 yX7_clear yX7_clear ∈ a_tbl := a_tbl_of (List.mem_of_getElem? (i := 584) rfl) rfl
set_option maxRecDepth 100000 in
theorem ks_X7_colour : Cond.selects RX7 yX7_colour yX7_colour ∈ a_tbl := a_tbl_of (List.mem_of_getElem? (i := 506) rfl) rfl
set_option maxRecDepth 100000 in
theorem ks_X7_copy : Cond.selects RX7 yX7_copy yX7_copy ∈ a_tbl := a_tbl_of (List.mem_of_getElem? (i := 755) rfl) rfl
set_option maxRecDepth 100000 in
theorem ks_X7_day : Cond.selects RX7 yX7_day yX7_day ∈ a_tbl := a_tbl_of (List.mem_of_getElem? (i := 541) rfl) rfl
set_option maxRecDepth 100000 in
theorem ks_X7_direction : Cond.selects RX7 yX7_direction yX7_direction ∈ a_tbl := a_tbl_of (List.mem_of_getElem? (i := 494) rfl) rfl
set_option maxRecDepth 100000 in
theorem ks_X7_doubt : Cond.selects RX7 yX7_doubt yX7_doubt ∈ a_tbl := a_tbl_of (List.mem_of_getElem? (i := 490) rfl) rfl
set_option maxRecDepth 100000 in
theorem ks_X7_fairway : Cond.selects RX7 yX7_fairway yX7_fairway ∈ a_tbl := a_tbl_of (List.mem_of_getElem? (i := 616) rfl) rfl
set_option maxRecDepth 100000 in
theorem ks_X7_feed : Cond.selects RX7 yX7_feed yX7_feed ∈ a_tbl := a_tbl_of (List.mem_of_getElem? (i := 355) rfl) rfl
set_option maxRecDepth 100000 in
theorem ks_X7_fits : Cond.selects RX7 yX7_fits yX7_fits ∈ a_tbl := a_tbl_of (List.mem_of_getElem? (i := 564) rfl) rfl
set_option maxRecDepth 100000 in
theorem ks_X7_fix : Cond.selects RX7 yX7_fix yX7_fix ∈ a_tbl := a_tbl_of (List.mem_of_getElem? (i := 591) rfl) rfl
set_option maxRecDepth 100000 in
theorem ks_X7_haze : Cond.selects RX7 yX7_haze yX7_haze ∈ a_tbl := a_tbl_of (List.mem_of_getElem? (i := 537) rfl) rfl
set_option maxRecDepth 100000 in
theorem ks_X7_keeper : Cond.selects RX7 yX7_keeper yX7_keeper ∈ a_tbl := a_tbl_of (List.mem_of_getElem? (i := 661) rfl) rfl
set_option maxRecDepth 100000 in
theorem ks_X7_kept : Cond.selects RX7 yX7_kept yX7_kept ∈ a_tbl := a_tbl_of (List.mem_of_getElem? (i := 628) rfl) rfl
set_option maxRecDepth 100000 in
theorem ks_X7_landing : Cond.selects RX7 yX7_landing yX7_landing ∈ a_tbl := a_tbl_of (List.mem_of_getElem? (i := 725) rfl) rfl
set_option maxRecDepth 100000 in
theorem ks_X7_light : Cond.selects RX7 yX7_light yX7_light ∈ a_tbl := a_tbl_of (List.mem_of_getElem? (i := 370) rfl) rfl
set_option maxRecDepth 100000 in
theorem ks_X7_lightIs : Cond.selects RX7 yX7_lightIs yX7_lightIs ∈ a_tbl := a_tbl_of (List.mem_of_getElem? (i := 462) rfl) rfl
set_option maxRecDepth 100000 in
theorem ks_X7_limit : Cond.selects RX7 yX7_limit yX7_limit ∈ a_tbl := a_tbl_of (List.mem_of_getElem? (i := 669) rfl) rfl
set_option maxRecDepth 100000 in
theorem ks_X7_may : Cond.selects RX7 yX7_may yX7_may ∈ a_tbl := a_tbl_of (List.mem_of_getElem? (i := 612) rfl) rfl
set_option maxRecDepth 100000 in
theorem ks_X7_out : Cond.selects RX7 yX7_out yX7_out ∈ a_tbl := a_tbl_of (List.mem_of_getElem? (i := 657) rfl) rfl
set_option maxRecDepth 100000 in
theorem ks_X7_overdue : Cond.selects RX7 yX7_overdue yX7_overdue ∈ a_tbl := a_tbl_of (List.mem_of_getElem? (i := 677) rfl) rfl
set_option maxRecDepth 100000 in
theorem ks_X7_proves : Cond.selects RX7 yX7_proves yX7_proves ∈ a_tbl := a_tbl_of (List.mem_of_getElem? (i := 729) rfl) rfl
set_option maxRecDepth 100000 in
theorem ks_X7_put : Cond.selects RX7 yX7_put yX7_put ∈ a_tbl := a_tbl_of (List.mem_of_getElem? (i := 747) rfl) rfl
set_option maxRecDepth 100000 in
theorem ks_X7_seas : Cond.selects RX7 yX7_seas yX7_seas ∈ a_tbl := a_tbl_of (List.mem_of_getElem? (i := 673) rfl) rfl
set_option maxRecDepth 100000 in
theorem ks_X7_sector : Cond.selects RX7 yX7_sector yX7_sector ∈ a_tbl := a_tbl_of (List.mem_of_getElem? (i := 480) rfl) rfl
set_option maxRecDepth 100000 in
theorem ks_X7_seen : Cond.selects RX7 yX7_seen yX7_seen ∈ a_tbl := a_tbl_of (List.mem_of_getElem? (i := 517) rfl) rfl
set_option maxRecDepth 100000 in
theorem ks_X7_sheet : Cond.selects RX7 yX7_sheet yX7_sheet ∈ a_tbl := a_tbl_of (List.mem_of_getElem? (i := 739) rfl) rfl
set_option maxRecDepth 100000 in
theorem ks_X7_undo : Cond.selects RX7 yX7_undo yX7_undo ∈ a_tbl := a_tbl_of (List.mem_of_getElem? (i := 763) rfl) rfl
set_option maxRecDepth 100000 in
theorem ks_X7_word : Cond.selects RX7 yX7_word yX7_word ∈ a_tbl := a_tbl_of (List.mem_of_getElem? (i := 642) rfl) rfl
set_option maxRecDepth 100000 in
theorem ks_X8_all : Cond.selects RX8 yX8_all yX8_all ∈ a_tbl := a_tbl_of (List.mem_of_getElem? (i := 1143) rfl) rfl
set_option maxRecDepth 100000 in
theorem ks_X8_allApart : Cond.selects RX8 yX8_allApart yX8_allApart ∈ a_tbl := a_tbl_of (List.mem_of_getElem? (i := 1018) rfl) rfl
set_option maxRecDepth 100000 in
theorem ks_X8_apart : Cond.selects RX8 yX8_apart yX8_apart ∈ a_tbl := a_tbl_of (List.mem_of_getElem? (i := 1010) rfl) rfl
set_option maxRecDepth 100000 in
theorem ks_X8_as : Cond.selects RX8 yX8_as yX8_as ∈ a_tbl := a_tbl_of (List.mem_of_getElem? (i := 915) rfl) rfl
set_option maxRecDepth 100000 in
theorem ks_X8_at : Cond.selects RX8 yX8_at yX8_at ∈ a_tbl := a_tbl_of (List.mem_of_getElem? (i := 931) rfl) rfl
set_option maxRecDepth 100000 in
theorem ks_X8_bearing : Cond.selects RX8 yX8_bearing yX8_bearing ∈ a_tbl := a_tbl_of (List.mem_of_getElem? (i := 1034) rfl) rfl
set_option maxRecDepth 100000 in
theorem ks_X8_clear : Cond.selects RX8 yX8_clear yX8_clear ∈ a_tbl := a_tbl_of (List.mem_of_getElem? (i := 1038) rfl) rfl
set_option maxRecDepth 100000 in
theorem ks_X8_colour : Cond.selects RX8 yX8_colour yX8_colour ∈ a_tbl := a_tbl_of (List.mem_of_getElem? (i := 970) rfl) rfl
set_option maxRecDepth 100000 in
theorem ks_X8_copy : Cond.selects RX8 yX8_copy yX8_copy ∈ a_tbl := a_tbl_of (List.mem_of_getElem? (i := 1139) rfl) rfl
set_option maxRecDepth 100000 in
theorem ks_X8_day : Cond.selects RX8 yX8_day yX8_day ∈ a_tbl := a_tbl_of (List.mem_of_getElem? (i := 1006) rfl) rfl
set_option maxRecDepth 100000 in
theorem ks_X8_direction : Cond.selects RX8 yX8_direction yX8_direction ∈ a_tbl := a_tbl_of (List.mem_of_getElem? (i := 950) rfl) rfl
set_option maxRecDepth 100000 in
theorem ks_X8_doubt : Cond.selects RX8 yX8_doubt yX8_doubt ∈ a_tbl := a_tbl_of (List.mem_of_getElem? (i := 946) rfl) rfl
set_option maxRecDepth 100000 in
theorem ks_X8_fairway : Cond.selects RX8 yX8_fairway yX8_fairway ∈ a_tbl := a_tbl_of (List.mem_of_getElem? (i := 1059) rfl) rfl
set_option maxRecDepth 100000 in
theorem ks_X8_feed : Cond.selects RX8 yX8_feed yX8_feed ∈ a_tbl := a_tbl_of (List.mem_of_getElem? (i := 859) rfl) rfl
set_option maxRecDepth 100000 in
theorem ks_X8_fits : Cond.selects RX8 yX8_fits yX8_fits ∈ a_tbl := a_tbl_of (List.mem_of_getElem? (i := 1022) rfl) rfl
set_option maxRecDepth 100000 in
theorem ks_X8_fix : Cond.selects RX8 yX8_fix yX8_fix ∈ a_tbl := a_tbl_of (List.mem_of_getElem? (i := 1042) rfl) rfl
set_option maxRecDepth 100000 in
theorem ks_X8_haze : Cond.selects RX8 yX8_haze yX8_haze ∈ a_tbl := a_tbl_of (List.mem_of_getElem? (i := 998) rfl) rfl
set_option maxRecDepth 100000 in
theorem ks_X8_keeper : Cond.selects RX8 yX8_keeper yX8_keeper ∈ a_tbl := a_tbl_of (List.mem_of_getElem? (i := 1075) rfl) rfl
set_option maxRecDepth 100000 in
theorem ks_X8_kept : Cond.selects RX8 yX8_kept yX8_kept ∈ a_tbl := a_tbl_of (List.mem_of_getElem? (i := 1063) rfl) rfl
set_option maxRecDepth 100000 in
theorem ks_X8_landing : Cond.selects RX8 yX8_landing yX8_landing ∈ a_tbl := a_tbl_of (List.mem_of_getElem? (i := 1119) rfl) rfl
set_option maxRecDepth 100000 in
theorem ks_X8_light : Cond.selects RX8 yX8_light yX8_light ∈ a_tbl := a_tbl_of (List.mem_of_getElem? (i := 869) rfl) rfl
set_option maxRecDepth 100000 in
theorem ks_X8_lightIs : Cond.selects RX8 yX8_lightIs yX8_lightIs ∈ a_tbl := a_tbl_of (List.mem_of_getElem? (i := 924) rfl) rfl
set_option maxRecDepth 100000 in
theorem ks_X8_limit : Cond.selects RX8 yX8_limit yX8_limit ∈ a_tbl := a_tbl_of (List.mem_of_getElem? (i := 1087) rfl) rfl
set_option maxRecDepth 100000 in
theorem ks_X8_may : Cond.selects RX8 yX8_may yX8_may ∈ a_tbl := a_tbl_of (List.mem_of_getElem? (i := 1055) rfl) rfl
set_option maxRecDepth 100000 in
theorem ks_X8_out : Cond.selects RX8 yX8_out yX8_out ∈ a_tbl := a_tbl_of (List.mem_of_getElem? (i := 1071) rfl) rfl
set_option maxRecDepth 100000 in
theorem ks_X8_overdue : Cond.selects RX8 yX8_overdue yX8_overdue ∈ a_tbl := a_tbl_of (List.mem_of_getElem? (i := 1095) rfl) rfl
set_option maxRecDepth 100000 in
theorem ks_X8_proves : Cond.selects RX8 yX8_proves yX8_proves ∈ a_tbl := a_tbl_of (List.mem_of_getElem? (i := 1127) rfl) rfl
set_option maxRecDepth 100000 in
theorem ks_X8_put : Cond.selects RX8 yX8_put yX8_put ∈ a_tbl := a_tbl_of (List.mem_of_getElem? (i := 1135) rfl) rfl
set_option maxRecDepth 100000 in
theorem ks_X8_seas : Cond.selects RX8 yX8_seas yX8_seas ∈ a_tbl := a_tbl_of (List.mem_of_getElem? (i := 1091) rfl) rfl
set_option maxRecDepth 100000 in
theorem ks_X8_sector : Cond.selects RX8 yX8_sector yX8_sector ∈ a_tbl := a_tbl_of (List.mem_of_getElem? (i := 939) rfl) rfl
set_option maxRecDepth 100000 in
theorem ks_X8_seen : Cond.selects RX8 yX8_seen yX8_seen ∈ a_tbl := a_tbl_of (List.mem_of_getElem? (i := 981) rfl) rfl
set_option maxRecDepth 100000 in
theorem ks_X8_sheet : Cond.selects RX8 yX8_sheet yX8_sheet ∈ a_tbl := a_tbl_of (List.mem_of_getElem? (i := 1131) rfl) rfl
set_option maxRecDepth 100000 in
theorem ks_X8_undo : Cond.selects RX8 yX8_undo yX8_undo ∈ a_tbl := a_tbl_of (List.mem_of_getElem? (i := 850) rfl) rfl
set_option maxRecDepth 100000 in
theorem ks_X8_word : Cond.selects RX8 yX8_word yX8_word ∈ a_tbl := a_tbl_of (List.mem_of_getElem? (i := 1067) rfl) rfl
set_option maxRecDepth 100000 in
theorem kL_l13 : Cond.constantLong R_law 13 (4294967295) ∈ lw_tbl := List.mem_of_getElem? (i := 1145) rfl
theorem hd_X7_all : yX7_all.cls = RX7 ∧ yX7_all.cls ≠ "java/lang/invoke/MethodHandle" ∧ yX7_all.cls ≠ "java/lang/invoke/VarHandle" ∧ (parseMethodDescriptor yX7_all.desc).map (fun d => d.parameters.length) = some 1 := by decide +kernel
theorem hd_X7_allApart : yX7_allApart.cls = RX7 ∧ yX7_allApart.cls ≠ "java/lang/invoke/MethodHandle" ∧ yX7_allApart.cls ≠ "java/lang/invoke/VarHandle" ∧ (parseMethodDescriptor yX7_allApart.desc).map (fun d => d.parameters.length) = some 1 := by decide +kernel
theorem hd_X7_apart : yX7_apart.cls = RX7 ∧ yX7_apart.cls ≠ "java/lang/invoke/MethodHandle" ∧ yX7_apart.cls ≠ "java/lang/invoke/VarHandle" ∧ (parseMethodDescriptor yX7_apart.desc).map (fun d => d.parameters.length) = some 2 := by decide +kernel
theorem hd_X7_as : yX7_as.cls = RX7 ∧ yX7_as.cls ≠ "java/lang/invoke/MethodHandle" ∧ yX7_as.cls ≠ "java/lang/invoke/VarHandle" ∧ (parseMethodDescriptor yX7_as.desc).map (fun d => d.parameters.length) = some 2 := by decide +kernel
theorem hd_X7_at : yX7_at.cls = RX7 ∧ yX7_at.cls ≠ "java/lang/invoke/MethodHandle" ∧ yX7_at.cls ≠ "java/lang/invoke/VarHandle" ∧ (parseMethodDescriptor yX7_at.desc).map (fun d => d.parameters.length) = some 2 := by decide +kernel
theorem hd_X7_bearing : yX7_bearing.cls = RX7 ∧ yX7_bearing.cls ≠ "java/lang/invoke/MethodHandle" ∧ yX7_bearing.cls ≠ "java/lang/invoke/VarHandle" ∧ (parseMethodDescriptor yX7_bearing.desc).map (fun d => d.parameters.length) = some 3 := by decide +kernel
theorem hd_X7_clear : yX7_clear.cls = RX7 ∧ yX7_clear.cls ≠ "java/lang/invoke/MethodHandle" ∧ yX7_clear.cls ≠ "java/lang/invoke/VarHandle" ∧ (parseMethodDescriptor yX7_clear.desc).map (fun d => d.parameters.length) = some 0 := by decide +kernel
theorem hd_X7_colour : yX7_colour.cls = RX7 ∧ yX7_colour.cls ≠ "java/lang/invoke/MethodHandle" ∧ yX7_colour.cls ≠ "java/lang/invoke/VarHandle" ∧ (parseMethodDescriptor yX7_colour.desc).map (fun d => d.parameters.length) = some 2 := by decide +kernel
theorem hd_X7_copy : yX7_copy.cls = RX7 ∧ yX7_copy.cls ≠ "java/lang/invoke/MethodHandle" ∧ yX7_copy.cls ≠ "java/lang/invoke/VarHandle" ∧ (parseMethodDescriptor yX7_copy.desc).map (fun d => d.parameters.length) = some 5 := by decide +kernel
theorem hd_X7_day : yX7_day.cls = RX7 ∧ yX7_day.cls ≠ "java/lang/invoke/MethodHandle" ∧ yX7_day.cls ≠ "java/lang/invoke/VarHandle" ∧ (parseMethodDescriptor yX7_day.desc).map (fun d => d.parameters.length) = some 1 := by decide +kernel
theorem hd_X7_direction : yX7_direction.cls = RX7 ∧ yX7_direction.cls ≠ "java/lang/invoke/MethodHandle" ∧ yX7_direction.cls ≠ "java/lang/invoke/VarHandle" ∧ (parseMethodDescriptor yX7_direction.desc).map (fun d => d.parameters.length) = some 2 := by decide +kernel
theorem hd_X7_doubt : yX7_doubt.cls = RX7 ∧ yX7_doubt.cls ≠ "java/lang/invoke/MethodHandle" ∧ yX7_doubt.cls ≠ "java/lang/invoke/VarHandle" ∧ (parseMethodDescriptor yX7_doubt.desc).map (fun d => d.parameters.length) = some 2 := by decide +kernel
theorem hd_X7_fairway : yX7_fairway.cls = RX7 ∧ yX7_fairway.cls ≠ "java/lang/invoke/MethodHandle" ∧ yX7_fairway.cls ≠ "java/lang/invoke/VarHandle" ∧ (parseMethodDescriptor yX7_fairway.desc).map (fun d => d.parameters.length) = some 2 := by decide +kernel
theorem hd_X7_feed : yX7_feed.cls = RX7 ∧ yX7_feed.cls ≠ "java/lang/invoke/MethodHandle" ∧ yX7_feed.cls ≠ "java/lang/invoke/VarHandle" ∧ (parseMethodDescriptor yX7_feed.desc).map (fun d => d.parameters.length) = some 2 := by decide +kernel
theorem hd_X7_fits : yX7_fits.cls = RX7 ∧ yX7_fits.cls ≠ "java/lang/invoke/MethodHandle" ∧ yX7_fits.cls ≠ "java/lang/invoke/VarHandle" ∧ (parseMethodDescriptor yX7_fits.desc).map (fun d => d.parameters.length) = some 1 := by decide +kernel
theorem hd_X7_fix : yX7_fix.cls = RX7 ∧ yX7_fix.cls ≠ "java/lang/invoke/MethodHandle" ∧ yX7_fix.cls ≠ "java/lang/invoke/VarHandle" ∧ (parseMethodDescriptor yX7_fix.desc).map (fun d => d.parameters.length) = some 1 := by decide +kernel
theorem hd_X7_haze : yX7_haze.cls = RX7 ∧ yX7_haze.cls ≠ "java/lang/invoke/MethodHandle" ∧ yX7_haze.cls ≠ "java/lang/invoke/VarHandle" ∧ (parseMethodDescriptor yX7_haze.desc).map (fun d => d.parameters.length) = some 1 := by decide +kernel
theorem hd_X7_keeper : yX7_keeper.cls = RX7 ∧ yX7_keeper.cls ≠ "java/lang/invoke/MethodHandle" ∧ yX7_keeper.cls ≠ "java/lang/invoke/VarHandle" ∧ (parseMethodDescriptor yX7_keeper.desc).map (fun d => d.parameters.length) = some 2 := by decide +kernel
theorem hd_X7_kept : yX7_kept.cls = RX7 ∧ yX7_kept.cls ≠ "java/lang/invoke/MethodHandle" ∧ yX7_kept.cls ≠ "java/lang/invoke/VarHandle" ∧ (parseMethodDescriptor yX7_kept.desc).map (fun d => d.parameters.length) = some 0 := by decide +kernel
theorem hd_X7_landing : yX7_landing.cls = RX7 ∧ yX7_landing.cls ≠ "java/lang/invoke/MethodHandle" ∧ yX7_landing.cls ≠ "java/lang/invoke/VarHandle" ∧ (parseMethodDescriptor yX7_landing.desc).map (fun d => d.parameters.length) = some 1 := by decide +kernel
theorem hd_X7_light : yX7_light.cls = RX7 ∧ yX7_light.cls ≠ "java/lang/invoke/MethodHandle" ∧ yX7_light.cls ≠ "java/lang/invoke/VarHandle" ∧ (parseMethodDescriptor yX7_light.desc).map (fun d => d.parameters.length) = some 3 := by decide +kernel
theorem hd_X7_lightIs : yX7_lightIs.cls = RX7 ∧ yX7_lightIs.cls ≠ "java/lang/invoke/MethodHandle" ∧ yX7_lightIs.cls ≠ "java/lang/invoke/VarHandle" ∧ (parseMethodDescriptor yX7_lightIs.desc).map (fun d => d.parameters.length) = some 2 := by decide +kernel
theorem hd_X7_limit : yX7_limit.cls = RX7 ∧ yX7_limit.cls ≠ "java/lang/invoke/MethodHandle" ∧ yX7_limit.cls ≠ "java/lang/invoke/VarHandle" ∧ (parseMethodDescriptor yX7_limit.desc).map (fun d => d.parameters.length) = some 2 := by decide +kernel
theorem hd_X7_may : yX7_may.cls = RX7 ∧ yX7_may.cls ≠ "java/lang/invoke/MethodHandle" ∧ yX7_may.cls ≠ "java/lang/invoke/VarHandle" ∧ (parseMethodDescriptor yX7_may.desc).map (fun d => d.parameters.length) = some 1 := by decide +kernel
theorem hd_X7_out : yX7_out.cls = RX7 ∧ yX7_out.cls ≠ "java/lang/invoke/MethodHandle" ∧ yX7_out.cls ≠ "java/lang/invoke/VarHandle" ∧ (parseMethodDescriptor yX7_out.desc).map (fun d => d.parameters.length) = some 3 := by decide +kernel
theorem hd_X7_overdue : yX7_overdue.cls = RX7 ∧ yX7_overdue.cls ≠ "java/lang/invoke/MethodHandle" ∧ yX7_overdue.cls ≠ "java/lang/invoke/VarHandle" ∧ (parseMethodDescriptor yX7_overdue.desc).map (fun d => d.parameters.length) = some 0 := by decide +kernel
theorem hd_X7_proves : yX7_proves.cls = RX7 ∧ yX7_proves.cls ≠ "java/lang/invoke/MethodHandle" ∧ yX7_proves.cls ≠ "java/lang/invoke/VarHandle" ∧ (parseMethodDescriptor yX7_proves.desc).map (fun d => d.parameters.length) = some 1 := by decide +kernel
theorem hd_X7_put : yX7_put.cls = RX7 ∧ yX7_put.cls ≠ "java/lang/invoke/MethodHandle" ∧ yX7_put.cls ≠ "java/lang/invoke/VarHandle" ∧ (parseMethodDescriptor yX7_put.desc).map (fun d => d.parameters.length) = some 3 := by decide +kernel
theorem hd_X7_seas : yX7_seas.cls = RX7 ∧ yX7_seas.cls ≠ "java/lang/invoke/MethodHandle" ∧ yX7_seas.cls ≠ "java/lang/invoke/VarHandle" ∧ (parseMethodDescriptor yX7_seas.desc).map (fun d => d.parameters.length) = some 1 := by decide +kernel
theorem hd_X7_sector : yX7_sector.cls = RX7 ∧ yX7_sector.cls ≠ "java/lang/invoke/MethodHandle" ∧ yX7_sector.cls ≠ "java/lang/invoke/VarHandle" ∧ (parseMethodDescriptor yX7_sector.desc).map (fun d => d.parameters.length) = some 4 := by decide +kernel
theorem hd_X7_seen : yX7_seen.cls = RX7 ∧ yX7_seen.cls ≠ "java/lang/invoke/MethodHandle" ∧ yX7_seen.cls ≠ "java/lang/invoke/VarHandle" ∧ (parseMethodDescriptor yX7_seen.desc).map (fun d => d.parameters.length) = some 1 := by decide +kernel
theorem hd_X7_sheet : yX7_sheet.cls = RX7 ∧ yX7_sheet.cls ≠ "java/lang/invoke/MethodHandle" ∧ yX7_sheet.cls ≠ "java/lang/invoke/VarHandle" ∧ (parseMethodDescriptor yX7_sheet.desc).map (fun d => d.parameters.length) = some 3 := by decide +kernel
theorem hd_X7_undo : yX7_undo.cls = RX7 ∧ yX7_undo.cls ≠ "java/lang/invoke/MethodHandle" ∧ yX7_undo.cls ≠ "java/lang/invoke/VarHandle" ∧ (parseMethodDescriptor yX7_undo.desc).map (fun d => d.parameters.length) = some 0 := by decide +kernel
theorem hd_X7_word : yX7_word.cls = RX7 ∧ yX7_word.cls ≠ "java/lang/invoke/MethodHandle" ∧ yX7_word.cls ≠ "java/lang/invoke/VarHandle" ∧ (parseMethodDescriptor yX7_word.desc).map (fun d => d.parameters.length) = some 4 := by decide +kernel
theorem hd_X8_all : yX8_all.cls = RX8 ∧ yX8_all.cls ≠ "java/lang/invoke/MethodHandle" ∧ yX8_all.cls ≠ "java/lang/invoke/VarHandle" ∧ (parseMethodDescriptor yX8_all.desc).map (fun d => d.parameters.length) = some 1 := by decide +kernel
theorem hd_X8_allApart : yX8_allApart.cls = RX8 ∧ yX8_allApart.cls ≠ "java/lang/invoke/MethodHandle" ∧ yX8_allApart.cls ≠ "java/lang/invoke/VarHandle" ∧ (parseMethodDescriptor yX8_allApart.desc).map (fun d => d.parameters.length) = some 1 := by decide +kernel
theorem hd_X8_apart : yX8_apart.cls = RX8 ∧ yX8_apart.cls ≠ "java/lang/invoke/MethodHandle" ∧ yX8_apart.cls ≠ "java/lang/invoke/VarHandle" ∧ (parseMethodDescriptor yX8_apart.desc).map (fun d => d.parameters.length) = some 2 := by decide +kernel
theorem hd_X8_as : yX8_as.cls = RX8 ∧ yX8_as.cls ≠ "java/lang/invoke/MethodHandle" ∧ yX8_as.cls ≠ "java/lang/invoke/VarHandle" ∧ (parseMethodDescriptor yX8_as.desc).map (fun d => d.parameters.length) = some 2 := by decide +kernel
theorem hd_X8_at : yX8_at.cls = RX8 ∧ yX8_at.cls ≠ "java/lang/invoke/MethodHandle" ∧ yX8_at.cls ≠ "java/lang/invoke/VarHandle" ∧ (parseMethodDescriptor yX8_at.desc).map (fun d => d.parameters.length) = some 2 := by decide +kernel
theorem hd_X8_bearing : yX8_bearing.cls = RX8 ∧ yX8_bearing.cls ≠ "java/lang/invoke/MethodHandle" ∧ yX8_bearing.cls ≠ "java/lang/invoke/VarHandle" ∧ (parseMethodDescriptor yX8_bearing.desc).map (fun d => d.parameters.length) = some 3 := by decide +kernel
theorem hd_X8_clear : yX8_clear.cls = RX8 ∧ yX8_clear.cls ≠ "java/lang/invoke/MethodHandle" ∧ yX8_clear.cls ≠ "java/lang/invoke/VarHandle" ∧ (parseMethodDescriptor yX8_clear.desc).map (fun d => d.parameters.length) = some 0 := by decide +kernel
theorem hd_X8_colour : yX8_colour.cls = RX8 ∧ yX8_colour.cls ≠ "java/lang/invoke/MethodHandle" ∧ yX8_colour.cls ≠ "java/lang/invoke/VarHandle" ∧ (parseMethodDescriptor yX8_colour.desc).map (fun d => d.parameters.length) = some 2 := by decide +kernel
theorem hd_X8_copy : yX8_copy.cls = RX8 ∧ yX8_copy.cls ≠ "java/lang/invoke/MethodHandle" ∧ yX8_copy.cls ≠ "java/lang/invoke/VarHandle" ∧ (parseMethodDescriptor yX8_copy.desc).map (fun d => d.parameters.length) = some 5 := by decide +kernel
theorem hd_X8_day : yX8_day.cls = RX8 ∧ yX8_day.cls ≠ "java/lang/invoke/MethodHandle" ∧ yX8_day.cls ≠ "java/lang/invoke/VarHandle" ∧ (parseMethodDescriptor yX8_day.desc).map (fun d => d.parameters.length) = some 1 := by decide +kernel
theorem hd_X8_direction : yX8_direction.cls = RX8 ∧ yX8_direction.cls ≠ "java/lang/invoke/MethodHandle" ∧ yX8_direction.cls ≠ "java/lang/invoke/VarHandle" ∧ (parseMethodDescriptor yX8_direction.desc).map (fun d => d.parameters.length) = some 2 := by decide +kernel
theorem hd_X8_doubt : yX8_doubt.cls = RX8 ∧ yX8_doubt.cls ≠ "java/lang/invoke/MethodHandle" ∧ yX8_doubt.cls ≠ "java/lang/invoke/VarHandle" ∧ (parseMethodDescriptor yX8_doubt.desc).map (fun d => d.parameters.length) = some 2 := by decide +kernel
theorem hd_X8_fairway : yX8_fairway.cls = RX8 ∧ yX8_fairway.cls ≠ "java/lang/invoke/MethodHandle" ∧ yX8_fairway.cls ≠ "java/lang/invoke/VarHandle" ∧ (parseMethodDescriptor yX8_fairway.desc).map (fun d => d.parameters.length) = some 2 := by decide +kernel
theorem hd_X8_feed : yX8_feed.cls = RX8 ∧ yX8_feed.cls ≠ "java/lang/invoke/MethodHandle" ∧ yX8_feed.cls ≠ "java/lang/invoke/VarHandle" ∧ (parseMethodDescriptor yX8_feed.desc).map (fun d => d.parameters.length) = some 2 := by decide +kernel
theorem hd_X8_fits : yX8_fits.cls = RX8 ∧ yX8_fits.cls ≠ "java/lang/invoke/MethodHandle" ∧ yX8_fits.cls ≠ "java/lang/invoke/VarHandle" ∧ (parseMethodDescriptor yX8_fits.desc).map (fun d => d.parameters.length) = some 1 := by decide +kernel
theorem hd_X8_fix : yX8_fix.cls = RX8 ∧ yX8_fix.cls ≠ "java/lang/invoke/MethodHandle" ∧ yX8_fix.cls ≠ "java/lang/invoke/VarHandle" ∧ (parseMethodDescriptor yX8_fix.desc).map (fun d => d.parameters.length) = some 1 := by decide +kernel
theorem hd_X8_haze : yX8_haze.cls = RX8 ∧ yX8_haze.cls ≠ "java/lang/invoke/MethodHandle" ∧ yX8_haze.cls ≠ "java/lang/invoke/VarHandle" ∧ (parseMethodDescriptor yX8_haze.desc).map (fun d => d.parameters.length) = some 1 := by decide +kernel
theorem hd_X8_keeper : yX8_keeper.cls = RX8 ∧ yX8_keeper.cls ≠ "java/lang/invoke/MethodHandle" ∧ yX8_keeper.cls ≠ "java/lang/invoke/VarHandle" ∧ (parseMethodDescriptor yX8_keeper.desc).map (fun d => d.parameters.length) = some 2 := by decide +kernel
theorem hd_X8_kept : yX8_kept.cls = RX8 ∧ yX8_kept.cls ≠ "java/lang/invoke/MethodHandle" ∧ yX8_kept.cls ≠ "java/lang/invoke/VarHandle" ∧ (parseMethodDescriptor yX8_kept.desc).map (fun d => d.parameters.length) = some 0 := by decide +kernel
theorem hd_X8_landing : yX8_landing.cls = RX8 ∧ yX8_landing.cls ≠ "java/lang/invoke/MethodHandle" ∧ yX8_landing.cls ≠ "java/lang/invoke/VarHandle" ∧ (parseMethodDescriptor yX8_landing.desc).map (fun d => d.parameters.length) = some 1 := by decide +kernel
theorem hd_X8_light : yX8_light.cls = RX8 ∧ yX8_light.cls ≠ "java/lang/invoke/MethodHandle" ∧ yX8_light.cls ≠ "java/lang/invoke/VarHandle" ∧ (parseMethodDescriptor yX8_light.desc).map (fun d => d.parameters.length) = some 3 := by decide +kernel
theorem hd_X8_lightIs : yX8_lightIs.cls = RX8 ∧ yX8_lightIs.cls ≠ "java/lang/invoke/MethodHandle" ∧ yX8_lightIs.cls ≠ "java/lang/invoke/VarHandle" ∧ (parseMethodDescriptor yX8_lightIs.desc).map (fun d => d.parameters.length) = some 2 := by decide +kernel
theorem hd_X8_limit : yX8_limit.cls = RX8 ∧ yX8_limit.cls ≠ "java/lang/invoke/MethodHandle" ∧ yX8_limit.cls ≠ "java/lang/invoke/VarHandle" ∧ (parseMethodDescriptor yX8_limit.desc).map (fun d => d.parameters.length) = some 2 := by decide +kernel
theorem hd_X8_may : yX8_may.cls = RX8 ∧ yX8_may.cls ≠ "java/lang/invoke/MethodHandle" ∧ yX8_may.cls ≠ "java/lang/invoke/VarHandle" ∧ (parseMethodDescriptor yX8_may.desc).map (fun d => d.parameters.length) = some 1 := by decide +kernel
theorem hd_X8_out : yX8_out.cls = RX8 ∧ yX8_out.cls ≠ "java/lang/invoke/MethodHandle" ∧ yX8_out.cls ≠ "java/lang/invoke/VarHandle" ∧ (parseMethodDescriptor yX8_out.desc).map (fun d => d.parameters.length) = some 3 := by decide +kernel
theorem hd_X8_overdue : yX8_overdue.cls = RX8 ∧ yX8_overdue.cls ≠ "java/lang/invoke/MethodHandle" ∧ yX8_overdue.cls ≠ "java/lang/invoke/VarHandle" ∧ (parseMethodDescriptor yX8_overdue.desc).map (fun d => d.parameters.length) = some 0 := by decide +kernel
theorem hd_X8_proves : yX8_proves.cls = RX8 ∧ yX8_proves.cls ≠ "java/lang/invoke/MethodHandle" ∧ yX8_proves.cls ≠ "java/lang/invoke/VarHandle" ∧ (parseMethodDescriptor yX8_proves.desc).map (fun d => d.parameters.length) = some 1 := by decide +kernel
theorem hd_X8_put : yX8_put.cls = RX8 ∧ yX8_put.cls ≠ "java/lang/invoke/MethodHandle" ∧ yX8_put.cls ≠ "java/lang/invoke/VarHandle" ∧ (parseMethodDescriptor yX8_put.desc).map (fun d => d.parameters.length) = some 3 := by decide +kernel
theorem hd_X8_seas : yX8_seas.cls = RX8 ∧ yX8_seas.cls ≠ "java/lang/invoke/MethodHandle" ∧ yX8_seas.cls ≠ "java/lang/invoke/VarHandle" ∧ (parseMethodDescriptor yX8_seas.desc).map (fun d => d.parameters.length) = some 1 := by decide +kernel
theorem hd_X8_sector : yX8_sector.cls = RX8 ∧ yX8_sector.cls ≠ "java/lang/invoke/MethodHandle" ∧ yX8_sector.cls ≠ "java/lang/invoke/VarHandle" ∧ (parseMethodDescriptor yX8_sector.desc).map (fun d => d.parameters.length) = some 4 := by decide +kernel
theorem hd_X8_seen : yX8_seen.cls = RX8 ∧ yX8_seen.cls ≠ "java/lang/invoke/MethodHandle" ∧ yX8_seen.cls ≠ "java/lang/invoke/VarHandle" ∧ (parseMethodDescriptor yX8_seen.desc).map (fun d => d.parameters.length) = some 1 := by decide +kernel
theorem hd_X8_sheet : yX8_sheet.cls = RX8 ∧ yX8_sheet.cls ≠ "java/lang/invoke/MethodHandle" ∧ yX8_sheet.cls ≠ "java/lang/invoke/VarHandle" ∧ (parseMethodDescriptor yX8_sheet.desc).map (fun d => d.parameters.length) = some 3 := by decide +kernel
theorem hd_X8_undo : yX8_undo.cls = RX8 ∧ yX8_undo.cls ≠ "java/lang/invoke/MethodHandle" ∧ yX8_undo.cls ≠ "java/lang/invoke/VarHandle" ∧ (parseMethodDescriptor yX8_undo.desc).map (fun d => d.parameters.length) = some 0 := by decide +kernel
theorem hd_X8_word : yX8_word.cls = RX8 ∧ yX8_word.cls ≠ "java/lang/invoke/MethodHandle" ∧ yX8_word.cls ≠ "java/lang/invoke/VarHandle" ∧ (parseMethodDescriptor yX8_word.desc).map (fun d => d.parameters.length) = some 4 := by decide +kernel
