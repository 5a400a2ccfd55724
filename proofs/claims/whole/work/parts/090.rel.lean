def Rel (C : aSc) (M : aMm) : Prop := C.1 0 0 = M 0 0
theorem pr_feed (a0 : Int32) (a1 : Int64) {C : aSc} {M : aMm} (hR : Rel C M) : ∃ (v : Int32) (C' : aSc) (M' : aMm), f_X7_feed a0 a1 C = some (v, C') ∧ f_X8_feed a0 a1 M = some (v, M') ∧ Rel C' M' := sorry
theorem pr_light (a0 : Int32) (a1 : Int32) (a2 : Int32) {C : aSc} {M : aMm} (hR : Rel C M) : ∃ (v : Int32) (C' : aSc) (M' : aMm), f_X7_light a0 a1 a2 C = some (v, C') ∧ f_X8_light a0 a1 a2 M = some (v, M') ∧ Rel C' M' := sorry
theorem pr_as (a0 : Int32) (a1 : Int32) {C : aSc} {M : aMm} (hR : Rel C M) : ∃ (v : Int32) (C' : aSc) (M' : aMm), f_X7_as a0 a1 C = some (v, C') ∧ f_X8_as a0 a1 M = some (v, M') ∧ Rel C' M' := sorry
theorem pr_lightIs (a0 : Int32) (a1 : Int32) {C : aSc} {M : aMm} (hR : Rel C M) : ∃ (v : Int32) (C' : aSc) (M' : aMm), f_X7_lightIs a0 a1 C = some (v, C') ∧ f_X8_lightIs a0 a1 M = some (v, M') ∧ Rel C' M' := sorry
theorem pr_at (a0 : Int32) (a1 : Int32) {C : aSc} {M : aMm} (hR : Rel C M) : ∃ (v : Int32) (C' : aSc) (M' : aMm), f_X7_at a0 a1 C = some (v, C') ∧ f_X8_at a0 a1 M = some (v, M') ∧ Rel C' M' := sorry
theorem pr_sector (a0 : Int32) (a1 : Int32) (a2 : Int32) (a3 : Int32) {C : aSc} {M : aMm} (hR : Rel C M) : ∃ (v : Int32) (C' : aSc) (M' : aMm), f_X7_sector a0 a1 a2 a3 C = some (v, C') ∧ f_X8_sector a0 a1 a2 a3 M = some (v, M') ∧ Rel C' M' := sorry
theorem pr_doubt (a0 : Int32) (a1 : Int32) {C : aSc} {M : aMm} (hR : Rel C M) : ∃ (v : Int32) (C' : aSc) (M' : aMm), f_X7_doubt a0 a1 C = some (v, C') ∧ f_X8_doubt a0 a1 M = some (v, M') ∧ Rel C' M' := sorry
theorem pr_direction (a0 : Int32) (a1 : Int32) {C : aSc} {M : aMm} (hR : Rel C M) : ∃ (v : Int32) (C' : aSc) (M' : aMm), f_X7_direction a0 a1 C = some (v, C') ∧ f_X8_direction a0 a1 M = some (v, M') ∧ Rel C' M' := sorry
theorem pr_colour (a0 : Int32) (a1 : Int32) {C : aSc} {M : aMm} (hR : Rel C M) : ∃ (v : Int32) (C' : aSc) (M' : aMm), f_X7_colour a0 a1 C = some (v, C') ∧ f_X8_colour a0 a1 M = some (v, M') ∧ Rel C' M' := sorry
theorem pr_seen (a0 : Int32) {C : aSc} {M : aMm} (hR : Rel C M) : ∃ (v : Int32) (C' : aSc) (M' : aMm), f_X7_seen a0 C = some (v, C') ∧ f_X8_seen a0 M = some (v, M') ∧ Rel C' M' := sorry
theorem pr_haze (a0 : Int32) {C : aSc} {M : aMm} (hR : Rel C M) : ∃ (v : Int32) (C' : aSc) (M' : aMm), f_X7_haze a0 C = some (v, C') ∧ f_X8_haze a0 M = some (v, M') ∧ Rel C' M' := sorry
theorem pr_day (a0 : Int32) {C : aSc} {M : aMm} (hR : Rel C M) : ∃ (v : Int32) (C' : aSc) (M' : aMm), f_X7_day a0 C = some (v, C') ∧ f_X8_day a0 M = some (v, M') ∧ Rel C' M' := sorry
theorem pr_apart (a0 : Int32) (a1 : Int32) {C : aSc} {M : aMm} (hR : Rel C M) : ∃ (v : Int32) (C' : aSc) (M' : aMm), f_X7_apart a0 a1 C = some (v, C') ∧ f_X8_apart a0 a1 M = some (v, M') ∧ Rel C' M' := sorry
theorem pr_allApart (a0 : Int32) {C : aSc} {M : aMm} (hR : Rel C M) : ∃ (v : Int32) (C' : aSc) (M' : aMm), f_X7_allApart a0 C = some (v, C') ∧ f_X8_allApart a0 M = some (v, M') ∧ Rel C' M' := sorry
theorem pr_fits (a0 : Int32) {C : aSc} {M : aMm} (hR : Rel C M) : ∃ (v : Int32) (C' : aSc) (M' : aMm), f_X7_fits a0 C = some (v, C') ∧ f_X8_fits a0 M = some (v, M') ∧ Rel C' M' := sorry
theorem pr_bearing (a0 : Int32) (a1 : Int32) (a2 : Int32) {C : aSc} {M : aMm} (hR : Rel C M) : ∃ (v : Int32) (C' : aSc) (M' : aMm), f_X7_bearing a0 a1 a2 C = some (v, C') ∧ f_X8_bearing a0 a1 a2 M = some (v, M') ∧ Rel C' M' := sorry
theorem pr_clear  {C : aSc} {M : aMm} (hR : Rel C M) : ∃ (v : Int32) (C' : aSc) (M' : aMm), f_X7_clear  C = some (v, C') ∧ f_X8_clear  M = some (v, M') ∧ Rel C' M' := sorry
theorem pr_fix (a0 : Int32) {C : aSc} {M : aMm} (hR : Rel C M) : ∃ (v : Int32) (C' : aSc) (M' : aMm), f_X7_fix a0 C = some (v, C') ∧ f_X8_fix a0 M = some (v, M') ∧ Rel C' M' := sorry
theorem pr_may (a0 : Int32) {C : aSc} {M : aMm} (hR : Rel C M) : ∃ (v : Int32) (C' : aSc) (M' : aMm), f_X7_may a0 C = some (v, C') ∧ f_X8_may a0 M = some (v, M') ∧ Rel C' M' := sorry
theorem pr_fairway (a0 : Int32) (a1 : Int32) {C : aSc} {M : aMm} (hR : Rel C M) : ∃ (v : Int32) (C' : aSc) (M' : aMm), f_X7_fairway a0 a1 C = some (v, C') ∧ f_X8_fairway a0 a1 M = some (v, M') ∧ Rel C' M' := sorry
theorem pr_kept  {C : aSc} {M : aMm} (hR : Rel C M) : ∃ (v : Int32) (C' : aSc) (M' : aMm), f_X7_kept  C = some (v, C') ∧ f_X8_kept  M = some (v, M') ∧ Rel C' M' := sorry
theorem pr_word (a0 : Int32) (a1 : Int32) (a2 : Int32) (a3 : Int32) {C : aSc} {M : aMm} (hR : Rel C M) : ∃ (v : Int32) (C' : aSc) (M' : aMm), f_X7_word a0 a1 a2 a3 C = some (v, C') ∧ f_X8_word a0 a1 a2 a3 M = some (v, M') ∧ Rel C' M' := sorry
theorem pr_out (a0 : Int32) (a1 : Int32) (a2 : Int32) {C : aSc} {M : aMm} (hR : Rel C M) : ∃ (v : Int32) (C' : aSc) (M' : aMm), f_X7_out a0 a1 a2 C = some (v, C') ∧ f_X8_out a0 a1 a2 M = some (v, M') ∧ Rel C' M' := sorry
theorem pr_keeper (a0 : Int32) (a1 : Int32) {C : aSc} {M : aMm} (hR : Rel C M) : ∃ (v : Int32) (C' : aSc) (M' : aMm), f_X7_keeper a0 a1 C = some (v, C') ∧ f_X8_keeper a0 a1 M = some (v, M') ∧ Rel C' M' := sorry
theorem pr_limit (a0 : Int32) (a1 : Int32) {C : aSc} {M : aMm} (hR : Rel C M) : ∃ (v : Int32) (C' : aSc) (M' : aMm), f_X7_limit a0 a1 C = some (v, C') ∧ f_X8_limit a0 a1 M = some (v, M') ∧ Rel C' M' := sorry
theorem pr_seas (a0 : Int32) {C : aSc} {M : aMm} (hR : Rel C M) : ∃ (v : Int32) (C' : aSc) (M' : aMm), f_X7_seas a0 C = some (v, C') ∧ f_X8_seas a0 M = some (v, M') ∧ Rel C' M' := sorry
theorem pr_overdue  {C : aSc} {M : aMm} (hR : Rel C M) : ∃ (v : Int32) (C' : aSc) (M' : aMm), f_X7_overdue  C = some (v, C') ∧ f_X8_overdue  M = some (v, M') ∧ Rel C' M' := sorry
theorem pr_landing (a0 : Int32) {C : aSc} {M : aMm} (hR : Rel C M) : ∃ (v : Int32) (C' : aSc) (M' : aMm), f_X7_landing a0 C = some (v, C') ∧ f_X8_landing a0 M = some (v, M') ∧ Rel C' M' := sorry
theorem pr_proves (a0 : Int32) {C : aSc} {M : aMm} (hR : Rel C M) : ∃ (v : Int32) (C' : aSc) (M' : aMm), f_X7_proves a0 C = some (v, C') ∧ f_X8_proves a0 M = some (v, M') ∧ Rel C' M' := sorry
theorem pr_sheet (a0 : Int32) (a1 : Int32) (a2 : Int32) {C : aSc} {M : aMm} (hR : Rel C M) : ∃ (v : Int32) (C' : aSc) (M' : aMm), f_X7_sheet a0 a1 a2 C = some (v, C') ∧ f_X8_sheet a0 a1 a2 M = some (v, M') ∧ Rel C' M' := sorry
theorem pr_put (a0 : Int32) (a1 : Int32) (a2 : Int32) {C : aSc} {M : aMm} (hR : Rel C M) : ∃ (v : Int32) (C' : aSc) (M' : aMm), f_X7_put a0 a1 a2 C = some (v, C') ∧ f_X8_put a0 a1 a2 M = some (v, M') ∧ Rel C' M' := sorry
theorem pr_copy (a0 : Int32) (a1 : Int32) (a2 : Int32) (a3 : Int32) (a4 : Int32) {C : aSc} {M : aMm} (hR : Rel C M) : ∃ (v : Int32) (C' : aSc) (M' : aMm), f_X7_copy a0 a1 a2 a3 a4 C = some (v, C') ∧ f_X8_copy a0 a1 a2 a3 a4 M = some (v, M') ∧ Rel C' M' := sorry
theorem pr_undo  {C : aSc} {M : aMm} (hR : Rel C M) : ∃ (v : Int32) (C' : aSc) (M' : aMm), f_X7_undo  C = some (v, C') ∧ f_X8_undo  M = some (v, M') ∧ Rel C' M' := sorry
theorem pr_all (a0 : Int32) {C : aSc} {M : aMm} (hR : Rel C M) : ∃ (v : Int32) (C' : aSc) (M' : aMm), f_X7_all a0 C = some (v, C') ∧ f_X8_all a0 M = some (v, M') ∧ Rel C' M' := sorry
theorem rel_0 : Rel (fun _ _ => 0, fun _ _ => 0, fun _ => 0) (fun _ _ => 0) := rfl
