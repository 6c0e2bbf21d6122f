section ROWJ
variable {ω0 ω : Wd} {ph : Bool} {D mc ms : Nat} {κ : Kx} {α : Type} {φ : α → Zo} {c0 s0 : Nat} {m : Mm} {pc : Nat} {ls : List (Option Value)} {st : List Value} {t : Option α}
theorem x_ldcWI {idx : Nat} {v : Int32} (hl : Cond.constant κ.1 idx v ∈ zG) (d : decode κ.2.1 pc = .ok (.ldc_w idx, 3)) (k : Sx ω0 ω ph D mc ms κ φ c0 s0 m (pc + 3) ls (.int v :: st) t) : Sx ω0 ω ph D mc ms κ φ c0 s0 m pc ls st t :=
  fun r hr p l e s mid args below meth c H locs la C L hH hS => lv_ldcw C.1 C.2.1 C.2.2.2.2.1 (C.2.2.2.2.2.1 _ hl) d (k r hr p l e s mid args below meth c H locs la C L hH hS)
end ROWJ
