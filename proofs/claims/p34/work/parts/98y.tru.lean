/-! THE LAW HOLDS FROM THE CLASS'S FIRST WORLD -/
theorem law_true (ω : Wd) (hL : oL ω ≤ 260) : ∃ mE : Mm, f_Law_law ω (mkM 207 lLoo) = some (1, mE) := law_all ω hL (fun _ _ => rfl) (fun _ _ => rfl)
