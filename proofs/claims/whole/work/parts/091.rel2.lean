/-! what the caches hold -/
def S_n (N : Nat → Int32) (k : Nat) : Nat := (N k).toNatClampNeg
/-- landings -/
def S_rk (N : Nat → Int32) (l : Nat) : Bool := decide (S_n N (10 + 22 * l) = 1 ∨ S_n N (10 + 22 * l) = 3)
def S_ov (N : Nat → Int32) (l day : Nat) : Nat := day - S_n N (10 + 22 * l + 8) - 10
def S_la (N : Nat → Int32) (l day : Nat) : Bool := decide (l < S_n N 0) && S_rk N l && decide (S_n N (366 + day) ≤ S_n N (10 + 22 * l + 9))
def S_re (N : Nat → Int32) (set : Nat) : Nat := ((List.range (S_n N 0)).map (fun l => if S_rk N l && !set.testBit l then S_ov N l 20 else 0)).sum
/-- the least days overdue from 'k days before day 20' on, with these landed -/
def S_le (N : Nat → Int32) : Nat → Nat → Nat
  | 0, set => S_re N set
  | k + 1, set => (List.range (S_n N 0)).foldl (fun best l => if !set.testBit l && S_la N l (19 - k) then min best (S_ov N l (19 - k) + S_le N k (set ||| 2 ^ l)) else best) (S_le N k set)
/-- the first choice on a day (none: 10) -/
def S_ch (N : Nat → Int32) (k set : Nat) : Nat := if S_le N k set = S_le N (k + 1) set then 10 else ((List.range (S_n N 0)).find? (fun l => !set.testBit l && S_la N l (19 - k) && decide (S_ov N l (19 - k) + S_le N k (set ||| 2 ^ l) = S_le N (k + 1) set))).getD 10
/-- the set landed behind n days, from day dy on -/
def S_st (N : Nat → Int32) (dy : Nat) : Nat → Nat
  | 0 => 0
  | n + 1 => let s := S_st N dy n; let c := S_ch N (19 - (dy + n)) s; if c = 10 then s else s ||| 2 ^ c
def S_pl (N : Nat → Int32) (dy d : Nat) : Nat := S_ch N (19 - d) (S_st N dy (d - dy))
/-! the parts of the relation -/
def R_t (C : aSc) (M : aMm) : Prop := ∃ n, n ≤ 40 ∧ C.1 1 1 = nI n ∧ M 0 5 = nI n ∧ ∀ i, i < n → C.1 2 i = M 3 i
def R_h (C : aSc) (M : aMm) : Prop := ∀ s, s < 4 → ∃ w n, (w = 0 ∨ w = 8 ∨ w = 16 ∨ w = 32) ∧ n ≤ 30 ∧ (w = 0 → n = 0) ∧ C.1 (54 + 2 * s) 0 = nI w ∧ M 4 s = nI w ∧ C.1 (54 + 2 * s) 1 = nI n ∧ M 5 s = nI n ∧ ∀ i, i < 30 → C.1 (55 + 2 * s) i = M 6 (30 * s + i)
def R_d (C : aSc) (M : aMm) : Prop := C.1 0 18 = M 0 3
def Bk (a o w : Int32) (row : Nat → Int32) (Nn No : Nat → Int32) : Prop := ∀ (C : aSc) (c : Nat), isP c → C.1 c 0 = a → C.1 c 1 = o → C.1 c 2 = w → (∀ j, j < 20 → C.1 (c + 1) j = row j) → Vw C Nn → ∃ C', f_X7_takeBack c C = some C' ∧ Vw C' No ∧ (∀ c j, vr c j = false → C'.1 c j = C.1 c j) ∧ C'.2 = C.2
def nrow (M : aMm) (k : Nat) : Nat → Int32 := fun j => M 2 (386 * k + j)
def R_p (C : aSc) (M : aMm) : Prop := ∃ kp top, kp ≤ 16 ∧ top < 16 ∧ C.1 22 2 = nI kp ∧ M 0 2 = nI kp ∧ C.1 22 1 = nI top ∧ ∀ k, k < kp → Bk (C.1 (62 + 2 * ((top + 16 - kp + k) % 16)) 0) (C.1 (62 + 2 * ((top + 16 - kp + k) % 16)) 1) (C.1 (62 + 2 * ((top + 16 - kp + k) % 16)) 2) (C.1 (63 + 2 * ((top + 16 - kp + k) % 16))) (if k + 1 = kp then M 1 else nrow M (k + 1)) (nrow M k)
/-- the fix that is known is what the reference finds -/
def R_f (C : aSc) (N : Nat → Int32) : Prop := C.1 0 15 = 0 ∨ (C.1 0 15 = 1 ∧ ∀ c, c < 256 → (C.1 20 c = 0 ∨ C.1 20 c = 1) ∧ ∀ M : aMm, M 1 = N → f_X8_isInFix (nI c) M = some (C.1 20 c))
def R_g (C : aSc) (N : Nat → Int32) : Prop := (∃ n, n ≤ 1024 ∧ C.2.2 18 = n ∧ C.2.2 19 = 20 * n) ∧ (C.1 0 13 = 0 ∨ (C.1 0 13 = 1 ∧ C.1 14 0 = nI (S_le N (20 - S_n N 5) 0) ∧ ∀ d, S_n N 5 ≤ d → d < 20 → C.1 15 d = if S_pl N (S_n N 5) d = 10 then -1 else nI (S_pl N (S_n N 5) d)))
def Rel (C : aSc) (M : aMm) : Prop := Vw C (M 1) ∧ R_t C M ∧ R_h C M ∧ R_d C M ∧ R_p C M ∧ R_f C (M 1) ∧ R_g C (M 1)
theorem rel_0 : Rel (fun _ _ => 0, fun _ _ => 0, fun _ => 0) (fun _ _ => 0) := by
  have z : (0 : Int32) = nI 0 := rfl
  refine ⟨⟨0, 0, 0, 0, 0, 0, ⟨by omega, ⟨z, z⟩, ⟨z, z⟩, ⟨z, z⟩, ⟨z, z⟩, ⟨z, z⟩, ⟨z, z⟩⟩, fun l h => absurd h (by omega), fun l h => absurd h (by omega), ⟨fun l h => absurd h (by omega), fun l h => absurd h (by omega), fun l _ h => absurd h (by omega), fun l _ h => absurd h (by omega), fun l h => absurd h (by omega), fun l h => absurd h (by omega)⟩, fun l h => absurd h (by omega), fun d _ => ⟨0, by omega, z, z⟩⟩, ⟨0, by omega, z, z, fun i h => absurd h (by omega)⟩, fun s _ => ⟨0, 0, Or.inl rfl, by omega, fun _ => rfl, z, z, z, z, fun _ _ => rfl⟩, rfl, ⟨0, 0, by omega, by omega, z, z, z, fun k h => absurd h (by omega)⟩, Or.inl rfl, ⟨⟨0, by omega, rfl, rfl⟩, Or.inl rfl⟩⟩
/-- nothing that the relation looks at has changed, but the count of findings -/
theorem rel_cong {C C' : aSc} {M M' : aMm} (hR : Rel C M) (hC : ∀ c j, (c < 94 ∧ ¬ (c = 0 ∧ j = 18) ∧ ¬ (c = 1 ∧ j ≠ 1) ∧ c ≠ 6 ∧ ¬ (c = 14 ∧ j ≠ 0) ∧ ¬ (16 ≤ c ∧ c ≤ 19)) → C'.1 c j = C.1 c j) (hC2 : C'.2 = C.2) (hM0 : ∀ j, (j = 2 ∨ j = 5) → M' 0 j = M 0 j) (hM : ∀ m, 1 ≤ m → m ≤ 6 → M' m = M m) (hd : C'.1 0 18 = M' 0 3) : Rel C' M' := by
  obtain ⟨hV, ⟨n, t1, t2, t3, t4⟩, hH, hD, ⟨kp, top, p1, p2, p3, p4, p5, p6⟩, hF, hG⟩ := hR
  have e1 := hM 1 (by omega) (by omega)
  have e2 := hM 2 (by omega) (by omega)
  refine ⟨?_, ⟨n, t1, ?_, ?_, ?_⟩, ?_, hd, ⟨kp, top, p1, p2, ?_, ?_, ?_, ?_⟩, ?_, ?_⟩
  · refine Vw_cong (fun c j h => hC c j ?_) (fun c j _ _ => by rw [hC2]) (fun j _ => by rw [e1]) hV
    simp [vr] at h
    omega
  · rw [hC 1 1 (by omega)]; exact t2
  · rw [hM0 5 (by omega)]; exact t3
  · intro i hi
    rw [hC 2 i (by omega), hM 3 (by omega) (by omega)]; exact t4 i hi
  · intro s hs
    obtain ⟨w, n, h1, h2, h3, h4, h5, h6, h7, h8⟩ := hH s hs
    refine ⟨w, n, h1, h2, h3, ?_, ?_, ?_, ?_, ?_⟩
    · rw [hC _ _ (by omega)]; exact h4
    · rw [hM 4 (by omega) (by omega)]; exact h5
    · rw [hC _ _ (by omega)]; exact h6
    · rw [hM 5 (by omega) (by omega)]; exact h7
    · intro i hi
      rw [hC _ _ (by omega), hM 6 (by omega) (by omega)]; exact h8 i hi
  · rw [hC 22 2 (by omega)]; exact p3
  · rw [hM0 2 (by omega)]; exact p4
  · rw [hC 22 1 (by omega)]; exact p5
  · intro k hk
    have hr : C'.1 (63 + 2 * ((top + 16 - kp + k) % 16)) = C.1 (63 + 2 * ((top + 16 - kp + k) % 16)) := funext fun j => hC _ j (by omega)
    have hn : ∀ k, nrow M' k = nrow M k := fun k => by unfold nrow; rw [e2]
    rw [hC _ _ (by omega), hC _ _ (by omega), hC _ _ (by omega), hr, e1, hn, hn]
    exact p6 k hk
  · unfold R_f
    rw [hC 0 15 (by omega), e1]
    rcases hF with h | ⟨h, h2⟩
    · exact Or.inl h
    · exact Or.inr ⟨h, fun c hc => by rw [hC 20 c (by omega)]; exact h2 c hc⟩
  · unfold R_g
    rw [hC2, hC 0 13 (by omega), hC 14 0 (by omega), e1]
    refine ⟨hG.1, ?_⟩
    rcases hG.2 with h | ⟨h, h2, h3⟩
    · exact Or.inl h
    · exact Or.inr ⟨h, h2, fun d h4 h5 => by rw [hC 15 d (by omega)]; exact h3 d h4 h5⟩
theorem rel_refuse {C : aSc} {M : aMm} (hR : Rel C M) : Rel (a_pi C 0 18 (a_gi C 0 18 + 1)) (m_pi M 0 3 (m_gi M 0 3 + 1)) := by
  refine rel_cong hR (fun c j h => a_pi_ne (by omega)) rfl (fun j h => m_pi_ne (by omega)) (fun m h _ => m_pi_row (by omega)) ?_
  rw [a_pi_at, m_pi_at]
  show C.1 0 18 + 1 = M 0 3 + 1
  rw [hR.2.2.2.1]
/-- both refuse -/
theorem pr_refuse {C : aSc} {M : aMm} (hR : Rel C M) (v : Int32) : ∃ C' M', f_X7_refuse v C = some (v, C') ∧ f_X8_finding v M = some (v, M') ∧ Rel C' M' := ⟨_, _, rfl, rfl, rel_refuse hR⟩
