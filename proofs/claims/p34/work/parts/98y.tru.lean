theorem law_true (ω : Wd) (hL : oL ω ≤ 260) : ∃ mE : Mm, f_Law_law ω (mkM 207 lLoo) = some (1, mE) := sorry
