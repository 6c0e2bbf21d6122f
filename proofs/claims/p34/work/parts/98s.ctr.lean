/-! CONSTRUCTORS: made by the generator -/
section CTL
variable {ω0 ω : Wd} {D mc ms : Nat} {κ : Kx} {α : Type} {φ : α → Zo} {c0 s0 : Nat} {pc : Nat} {ls : List (Option Value)} {st : List Value}
theorem i_letM {e : Mm} {f : Mm → Option α} (k : ∀ x, Sx ω0 ω false D mc ms κ φ c0 s0 x pc ls st (f x)) : Sx ω0 ω false D mc ms κ φ c0 s0 e pc ls st (zLet e f) := k e
theorem i_putI {m : Mm} {t : Option α} {a idx ci k : Nat} {fin : Bool} {v : Int32} (hf : zFp κ.1 idx ci k fin .int) (h0 : zfk ci k = 0) (hT : zT a = ci + 1) (hfin : fin = true → κ.2.2.2.2.2 = true) (d : decode κ.2.1 pc = .ok (.putfield idx, 3)) (k1 : Sx ω0 ω false D mc ms κ φ c0 s0 (wI m a k v) (pc + 3) ls st t) : Sx ω0 ω false D mc ms κ φ c0 s0 m pc ls (.int v :: .ref (zad ω a) :: st) (if a < zN m then t else none) :=
  x_guard fun ha => x_putI hf h0 hT (Or.inr ha) hfin rfl rfl d k1
end CTL
theorem co_i1 : Cond.instanceMethod objectInit ∈ zG := zG_in 73 (by decide +kernel) (by decide +kernel)
theorem co_i2 : Cond.code objectInit ⟨#[0xb1]⟩ 1 none ∈ zG := zG_in 74 (by decide +kernel) (by decide +kernel)
theorem co_RX8 : Cond.methodLink RX8 1 objectInit ∈ zG := zG_in 80 (by decide +kernel) (by decide +kernel)
theorem ca_char : Cond.arrayClass .char ∈ zG := by decide +kernel
theorem fc_RX8_9 : zFp RX8 9 7 0 true (.array .char) := ⟨RX8, TX8, 2, tyX8, rfl, by decide, zinG_X8, Or.inl (zG_in 81 (by decide +kernel) (by decide +kernel)), tyX8_ok, nmX8, rfl, rfl, fun _ => rfl⟩
theorem co_RX3 : Cond.methodLink RX3 3 objectInit ∈ zG := zG_in 100 (by decide +kernel) (by decide +kernel)
theorem ca_int : Cond.arrayClass .int ∈ zG := by decide +kernel
theorem fc_RX3_11 : zFp RX3 11 2 0 true (.array .int) := ⟨RX3, TX3, 4, tyX3, rfl, by decide, zinG_X3, Or.inl (zG_in 101 (by decide +kernel) (by decide +kernel)), tyX3_ok, nmX3, rfl, rfl, fun _ => rfl⟩
theorem fc_RX3_15 : zFp RX3 15 2 1 true (.array .int) := ⟨RX3, TX3, 4, tyX3, rfl, by decide, zinG_X3, Or.inl (zG_in 102 (by decide +kernel) (by decide +kernel)), tyX3_ok, nmX3, rfl, rfl, fun _ => rfl⟩
theorem co_RX9 : Cond.methodLink RX9 3 objectInit ∈ zG := zG_in 201 (by decide +kernel) (by decide +kernel)
theorem co_RX4 : Cond.methodLink RX4 1 objectInit ∈ zG := zG_in 145 (by decide +kernel) (by decide +kernel)
theorem nw_RX4_7 : zNw RX4 7 7 2 := ⟨RX8, TX8, tyX8, rfl, tyX8_ok, zinG_X8, zG_in 146 (by decide +kernel) (by decide +kernel), zG_in 76 (by decide +kernel) (by decide +kernel), zG_in 44 (by decide +kernel) (by decide +kernel), by decide⟩
theorem mi_RX4_9 : zMi RX4 9 yX8_init cX8_init 1 0 := ⟨Or.inr ⟨"AlmanacLoom", zG_in 147 (by decide +kernel) (by decide +kernel)⟩, zG_in 78 (by decide +kernel) (by decide +kernel), rfl, zG_in 44 (by decide +kernel) (by decide +kernel), zG_in 79 (by decide +kernel) (by decide +kernel), ⟨by decide +kernel, by decide +kernel⟩, by decide +kernel⟩
theorem fc_RX4_10 : zFp RX4 10 3 0 true (.object "AlmanacLoom$Text") := ⟨RX4, TX4, 4, tyX4, rfl, by decide, zinG_X4, Or.inl (zG_in 150 (by decide +kernel) (by decide +kernel)), tyX4_ok, nmX4, rfl, rfl, fun _ => rfl⟩
theorem nw_RX4_16 : zNw RX4 16 2 4 := ⟨RX3, TX3, tyX3, rfl, tyX3_ok, zinG_X3, zG_in 148 (by decide +kernel) (by decide +kernel), zG_in 96 (by decide +kernel) (by decide +kernel), zG_in 46 (by decide +kernel) (by decide +kernel), by decide⟩
theorem mi_RX4_18 : zMi RX4 18 yX3_init cX3_init 1 0 := ⟨Or.inr ⟨"AlmanacLoom", zG_in 149 (by decide +kernel) (by decide +kernel)⟩, zG_in 98 (by decide +kernel) (by decide +kernel), rfl, zG_in 46 (by decide +kernel) (by decide +kernel), zG_in 99 (by decide +kernel) (by decide +kernel), ⟨by decide +kernel, by decide +kernel⟩, by decide +kernel⟩
theorem fc_RX4_19 : zFp RX4 19 3 1 true (.object "AlmanacLoom$Code") := ⟨RX4, TX4, 4, tyX4, rfl, by decide, zinG_X4, Or.inl (zG_in 152 (by decide +kernel) (by decide +kernel)), tyX4_ok, nmX4, rfl, rfl, fun _ => rfl⟩
theorem co_RX10 : Cond.methodLink RX10 3 objectInit ∈ zG := zG_in 195 (by decide +kernel) (by decide +kernel)
theorem nw_RX10_9 : zNw RX10 9 8 6 := ⟨RX9, TX9, tyX9, rfl, tyX9_ok, zinG_X9, zG_in 196 (by decide +kernel) (by decide +kernel), zG_in 197 (by decide +kernel) (by decide +kernel), zG_in 50 (by decide +kernel) (by decide +kernel), by decide⟩
theorem mi_RX10_11 : zMi RX10 11 yX9_init cX9_init 1 0 := ⟨Or.inr ⟨"AlmanacLoom", zG_in 198 (by decide +kernel) (by decide +kernel)⟩, zG_in 199 (by decide +kernel) (by decide +kernel), rfl, zG_in 50 (by decide +kernel) (by decide +kernel), zG_in 200 (by decide +kernel) (by decide +kernel), ⟨by decide +kernel, by decide +kernel⟩, by decide +kernel⟩
theorem fc_RX10_12 : zFp RX10 12 9 1 true (.object "AlmanacLoom$Walk") := ⟨RX10, TX10, 8, tyX10, rfl, by decide, zinG_X10, Or.inl (zG_in 222 (by decide +kernel) (by decide +kernel)), tyX10_ok, nmX10, rfl, rfl, fun _ => rfl⟩
theorem fc_RX10_20 : zFp RX10 20 9 2 true (.array .int) := ⟨RX10, TX10, 8, tyX10, rfl, by decide, zinG_X10, Or.inl (zG_in 223 (by decide +kernel) (by decide +kernel)), tyX10_ok, nmX10, rfl, rfl, fun _ => rfl⟩
theorem fc_RX10_24 : zFp RX10 24 9 3 true (.array .int) := ⟨RX10, TX10, 8, tyX10, rfl, by decide, zinG_X10, Or.inl (zG_in 224 (by decide +kernel) (by decide +kernel)), tyX10_ok, nmX10, rfl, rfl, fun _ => rfl⟩
theorem fc_RX10_27 : zFp RX10 27 9 4 true (.array .int) := ⟨RX10, TX10, 8, tyX10, rfl, by decide, zinG_X10, Or.inl (zG_in 225 (by decide +kernel) (by decide +kernel)), tyX10_ok, nmX10, rfl, rfl, fun _ => rfl⟩
theorem fc_RX10_30 : zFp RX10 30 9 5 true (.array .int) := ⟨RX10, TX10, 8, tyX10, rfl, by decide, zinG_X10, Or.inl (zG_in 226 (by decide +kernel) (by decide +kernel)), tyX10_ok, nmX10, rfl, rfl, fun _ => rfl⟩
theorem fc_RX10_33 : zFp RX10 33 9 0 true (.object "AlmanacLoom$Almanac") := ⟨RX10, TX10, 8, tyX10, rfl, by decide, zinG_X10, Or.inl (zG_in 221 (by decide +kernel) (by decide +kernel)), tyX10_ok, nmX10, rfl, rfl, fun _ => rfl⟩
theorem co_RX6 : Cond.methodLink RX6 5 objectInit ∈ zG := zG_in 251 (by decide +kernel) (by decide +kernel)
theorem nw_RX6_11 : zNw RX6 11 8 6 := ⟨RX9, TX9, tyX9, rfl, tyX9_ok, zinG_X9, zG_in 252 (by decide +kernel) (by decide +kernel), zG_in 197 (by decide +kernel) (by decide +kernel), zG_in 50 (by decide +kernel) (by decide +kernel), by decide⟩
theorem mi_RX6_13 : zMi RX6 13 yX9_init cX9_init 1 0 := ⟨Or.inr ⟨"AlmanacLoom", zG_in 253 (by decide +kernel) (by decide +kernel)⟩, zG_in 199 (by decide +kernel) (by decide +kernel), rfl, zG_in 50 (by decide +kernel) (by decide +kernel), zG_in 200 (by decide +kernel) (by decide +kernel), ⟨by decide +kernel, by decide +kernel⟩, by decide +kernel⟩
theorem fc_RX6_14 : zFp RX6 14 5 1 true (.object "AlmanacLoom$Walk") := ⟨RX6, TX6, 6, tyX6, rfl, by decide, zinG_X6, Or.inl (zG_in 257 (by decide +kernel) (by decide +kernel)), tyX6_ok, nmX6, rfl, rfl, fun _ => rfl⟩
theorem fc_RX6_22 : zFp RX6 22 5 2 true (.array .int) := ⟨RX6, TX6, 6, tyX6, rfl, by decide, zinG_X6, Or.inl (zG_in 258 (by decide +kernel) (by decide +kernel)), tyX6_ok, nmX6, rfl, rfl, fun _ => rfl⟩
theorem fc_RX6_26 : zFp RX6 26 5 3 true (.array .int) := ⟨RX6, TX6, 6, tyX6, rfl, by decide, zinG_X6, Or.inl (zG_in 259 (by decide +kernel) (by decide +kernel)), tyX6_ok, nmX6, rfl, rfl, fun _ => rfl⟩
theorem fc_RX6_29 : zFp RX6 29 5 0 true (.object "AlmanacLoom$Almanac") := ⟨RX6, TX6, 6, tyX6, rfl, by decide, zinG_X6, Or.inl (zG_in 256 (by decide +kernel) (by decide +kernel)), tyX6_ok, nmX6, rfl, rfl, fun _ => rfl⟩
theorem nw_RX6_1 : zNw RX6 1 7 2 := ⟨RX8, TX8, tyX8, rfl, tyX8_ok, zinG_X8, zG_in 254 (by decide +kernel) (by decide +kernel), zG_in 76 (by decide +kernel) (by decide +kernel), zG_in 44 (by decide +kernel) (by decide +kernel), by decide⟩
theorem mi_RX6_33 : zMi RX6 33 yX8_init cX8_init 1 0 := ⟨Or.inr ⟨"AlmanacLoom", zG_in 255 (by decide +kernel) (by decide +kernel)⟩, zG_in 78 (by decide +kernel) (by decide +kernel), rfl, zG_in 44 (by decide +kernel) (by decide +kernel), zG_in 79 (by decide +kernel) (by decide +kernel), ⟨by decide +kernel, by decide +kernel⟩, by decide +kernel⟩
theorem fc_RX6_34 : zFp RX6 34 5 4 false (.object "AlmanacLoom$Text") := ⟨RX6, TX6, 6, tyX6, rfl, by decide, zinG_X6, Or.inl (zG_in 260 (by decide +kernel) (by decide +kernel)), tyX6_ok, nmX6, rfl, rfl, fun h => nomatch h⟩
theorem co_RX5 : Cond.methodLink RX5 5 objectInit ∈ zG := zG_in 94 (by decide +kernel) (by decide +kernel)
theorem nw_RX5_11 : zNw RX5 11 2 4 := ⟨RX3, TX3, tyX3, rfl, tyX3_ok, zinG_X3, zG_in 95 (by decide +kernel) (by decide +kernel), zG_in 96 (by decide +kernel) (by decide +kernel), zG_in 46 (by decide +kernel) (by decide +kernel), by decide⟩
theorem mi_RX5_13 : zMi RX5 13 yX3_init cX3_init 1 0 := ⟨Or.inr ⟨"AlmanacLoom", zG_in 97 (by decide +kernel) (by decide +kernel)⟩, zG_in 98 (by decide +kernel) (by decide +kernel), rfl, zG_in 46 (by decide +kernel) (by decide +kernel), zG_in 99 (by decide +kernel) (by decide +kernel), ⟨by decide +kernel, by decide +kernel⟩, by decide +kernel⟩
theorem fc_RX5_14 : zFp RX5 14 4 0 true (.object "AlmanacLoom$Code") := ⟨RX5, TX5, 5, tyX5, rfl, by decide, zinG_X5, Or.inl (zG_in 117 (by decide +kernel) (by decide +kernel)), tyX5_ok, nmX5, rfl, rfl, fun _ => rfl⟩
theorem nw_RX5_1 : zNw RX5 1 7 2 := ⟨RX8, TX8, tyX8, rfl, tyX8_ok, zinG_X8, zG_in 115 (by decide +kernel) (by decide +kernel), zG_in 76 (by decide +kernel) (by decide +kernel), zG_in 44 (by decide +kernel) (by decide +kernel), by decide⟩
theorem mi_RX5_20 : zMi RX5 20 yX8_init cX8_init 1 0 := ⟨Or.inr ⟨"AlmanacLoom", zG_in 116 (by decide +kernel) (by decide +kernel)⟩, zG_in 78 (by decide +kernel) (by decide +kernel), rfl, zG_in 44 (by decide +kernel) (by decide +kernel), zG_in 79 (by decide +kernel) (by decide +kernel), ⟨by decide +kernel, by decide +kernel⟩, by decide +kernel⟩
theorem fc_RX5_21 : zFp RX5 21 4 1 false (.object "AlmanacLoom$Text") := ⟨RX5, TX5, 5, tyX5, rfl, by decide, zinG_X5, Or.inl (zG_in 118 (by decide +kernel) (by decide +kernel)), tyX5_ok, nmX5, rfl, rfl, fun h => nomatch h⟩
theorem co_RX7 : Cond.methodLink RX7 3 objectInit ∈ zG := zG_in 280 (by decide +kernel) (by decide +kernel)
theorem nw_RX7_9 : zNw RX7 9 2 4 := ⟨RX3, TX3, tyX3, rfl, tyX3_ok, zinG_X3, zG_in 281 (by decide +kernel) (by decide +kernel), zG_in 96 (by decide +kernel) (by decide +kernel), zG_in 46 (by decide +kernel) (by decide +kernel), by decide⟩
theorem mi_RX7_11 : zMi RX7 11 yX3_init cX3_init 1 0 := ⟨Or.inr ⟨"AlmanacLoom", zG_in 282 (by decide +kernel) (by decide +kernel)⟩, zG_in 98 (by decide +kernel) (by decide +kernel), rfl, zG_in 46 (by decide +kernel) (by decide +kernel), zG_in 99 (by decide +kernel) (by decide +kernel), ⟨by decide +kernel, by decide +kernel⟩, by decide +kernel⟩
theorem fc_RX7_12 : zFp RX7 12 6 0 true (.object "AlmanacLoom$Code") := ⟨RX7, TX7, 4, tyX7, rfl, by decide, zinG_X7, Or.inl (zG_in 283 (by decide +kernel) (by decide +kernel)), tyX7_ok, nmX7, rfl, rfl, fun _ => rfl⟩
theorem co_RX1 : Cond.methodLink RX1 3 objectInit ∈ zG := zG_in 301 (by decide +kernel) (by decide +kernel)
theorem fc_RX1_11 : zFp RX1 11 1 0 true (.array .int) := ⟨RX1, TX1, 8, tyX1, rfl, by decide, zinG_X1, Or.inl (zG_in 304 (by decide +kernel) (by decide +kernel)), tyX1_ok, nmX1, rfl, rfl, fun _ => rfl⟩
theorem fc_RX1_15 : zFp RX1 15 1 1 true (.array .int) := ⟨RX1, TX1, 8, tyX1, rfl, by decide, zinG_X1, Or.inl (zG_in 305 (by decide +kernel) (by decide +kernel)), tyX1_ok, nmX1, rfl, rfl, fun _ => rfl⟩
theorem fc_RX1_18 : zFp RX1 18 1 2 true (.array .int) := ⟨RX1, TX1, 8, tyX1, rfl, by decide, zinG_X1, Or.inl (zG_in 306 (by decide +kernel) (by decide +kernel)), tyX1_ok, nmX1, rfl, rfl, fun _ => rfl⟩
theorem fc_RX1_21 : zFp RX1 21 1 4 true (.array .int) := ⟨RX1, TX1, 8, tyX1, rfl, by decide, zinG_X1, Or.inl (zG_in 308 (by decide +kernel) (by decide +kernel)), tyX1_ok, nmX1, rfl, rfl, fun _ => rfl⟩
theorem fc_RX1_24 : zFp RX1 24 1 5 true (.array .int) := ⟨RX1, TX1, 8, tyX1, rfl, by decide, zinG_X1, Or.inl (zG_in 309 (by decide +kernel) (by decide +kernel)), tyX1_ok, nmX1, rfl, rfl, fun _ => rfl⟩
theorem cl_RX1_29 : Cond.classLink RX1 29 "[[I" ∈ zG := zG_in 302 (by decide +kernel) (by decide +kernel)
theorem ca_A : Cond.arrayOver (.array .int) ∈ zG := by decide +kernel
theorem fc_RX1_31 : zFp RX1 31 1 6 true (.array (.array .int)) := ⟨RX1, TX1, 8, tyX1, rfl, by decide, zinG_X1, Or.inl (zG_in 310 (by decide +kernel) (by decide +kernel)), tyX1_ok, nmX1, rfl, rfl, fun _ => rfl⟩
theorem co_RX0 : Cond.methodLink RX0 3 objectInit ∈ zG := zG_in 138 (by decide +kernel) (by decide +kernel)
theorem cl_RX0_11 : Cond.classLink RX0 11 "AlmanacLoom$Feast" ∈ zG := zG_in 139 (by decide +kernel) (by decide +kernel)
theorem ca_F : Cond.arrayOver (.object "AlmanacLoom$Feast") ∈ zG := by decide +kernel
theorem fc_RX0_13 : zFp RX0 13 0 0 true (.array (.object "AlmanacLoom$Feast")) := ⟨RX0, TX0, 8, tyX0, rfl, by decide, zinG_X0, Or.inl (zG_in 165 (by decide +kernel) (by decide +kernel)), tyX0_ok, nmX0, rfl, rfl, fun _ => rfl⟩
theorem fc_RX0_17 : zFp RX0 17 0 1 true (.array .int) := ⟨RX0, TX0, 8, tyX0, rfl, by decide, zinG_X0, Or.inl (zG_in 166 (by decide +kernel) (by decide +kernel)), tyX0_ok, nmX0, rfl, rfl, fun _ => rfl⟩
theorem fc_RX0_21 : zFp RX0 21 0 2 true (.array .int) := ⟨RX0, TX0, 8, tyX0, rfl, by decide, zinG_X0, Or.inl (zG_in 167 (by decide +kernel) (by decide +kernel)), tyX0_ok, nmX0, rfl, rfl, fun _ => rfl⟩
theorem fc_RX0_24 : zFp RX0 24 0 4 true (.array .int) := ⟨RX0, TX0, 8, tyX0, rfl, by decide, zinG_X0, Or.inl (zG_in 169 (by decide +kernel) (by decide +kernel)), tyX0_ok, nmX0, rfl, rfl, fun _ => rfl⟩
theorem fc_RX0_27 : zFp RX0 27 0 5 true (.array .int) := ⟨RX0, TX0, 8, tyX0, rfl, by decide, zinG_X0, Or.inl (zG_in 170 (by decide +kernel) (by decide +kernel)), tyX0_ok, nmX0, rfl, rfl, fun _ => rfl⟩
theorem fc_RX0_30 : zFp RX0 30 0 6 true (.array .int) := ⟨RX0, TX0, 8, tyX0, rfl, by decide, zinG_X0, Or.inl (zG_in 171 (by decide +kernel) (by decide +kernel)), tyX0_ok, nmX0, rfl, rfl, fun _ => rfl⟩
theorem fg_RX0_13 : zFl RX0 13 0 0 := ⟨RX0, TX0, 8, rfl, by decide, zinG_X0, Or.inl (zG_in 165 (by decide +kernel) (by decide +kernel))⟩
theorem nw_RX0_11 : zNw RX0 11 3 4 := ⟨RX4, TX4, tyX4, rfl, tyX4_ok, zinG_X4, zG_in 139 (by decide +kernel) (by decide +kernel), zG_in 141 (by decide +kernel) (by decide +kernel), zG_in 48 (by decide +kernel) (by decide +kernel), by decide⟩
theorem mi_RX0_33 : zMi RX0 33 yX4_init cX4_init 1 0 := ⟨Or.inr ⟨"AlmanacLoom", zG_in 142 (by decide +kernel) (by decide +kernel)⟩, zG_in 143 (by decide +kernel) (by decide +kernel), rfl, zG_in 48 (by decide +kernel) (by decide +kernel), zG_in 144 (by decide +kernel) (by decide +kernel), ⟨by decide +kernel, by decide +kernel⟩, by decide +kernel⟩
theorem co_RX11 : Cond.methodLink RX11 1 objectInit ∈ zG := zG_in 72 (by decide +kernel) (by decide +kernel)
theorem nw_RX11_7 : zNw RX11 7 7 2 := ⟨RX8, TX8, tyX8, rfl, tyX8_ok, zinG_X8, zG_in 75 (by decide +kernel) (by decide +kernel), zG_in 76 (by decide +kernel) (by decide +kernel), zG_in 44 (by decide +kernel) (by decide +kernel), by decide⟩
theorem mi_RX11_9 : zMi RX11 9 yX8_init cX8_init 1 0 := ⟨Or.inr ⟨"AlmanacLoom", zG_in 77 (by decide +kernel) (by decide +kernel)⟩, zG_in 78 (by decide +kernel) (by decide +kernel), rfl, zG_in 44 (by decide +kernel) (by decide +kernel), zG_in 79 (by decide +kernel) (by decide +kernel), ⟨by decide +kernel, by decide +kernel⟩, by decide +kernel⟩
theorem fc_RX11_10 : zFp RX11 10 10 0 true (.object "AlmanacLoom$Text") := ⟨RX11, TX11, 9, tyX11, rfl, by decide, zinG_X11, Or.inl (zG_in 329 (by decide +kernel) (by decide +kernel)), tyX11_ok, nmX11, rfl, rfl, fun _ => rfl⟩
theorem nw_RX11_16 : zNw RX11 16 4 5 := ⟨RX5, TX5, tyX5, rfl, tyX5_ok, zinG_X5, zG_in 89 (by decide +kernel) (by decide +kernel), zG_in 90 (by decide +kernel) (by decide +kernel), zG_in 45 (by decide +kernel) (by decide +kernel), by decide⟩
theorem mi_RX11_18 : zMi RX11 18 yX5_init cX5_init 1 0 := ⟨Or.inl (zG_in 91 (by decide +kernel) (by decide +kernel)), zG_in 92 (by decide +kernel) (by decide +kernel), rfl, zG_in 45 (by decide +kernel) (by decide +kernel), zG_in 93 (by decide +kernel) (by decide +kernel), ⟨by decide +kernel, by decide +kernel⟩, by decide +kernel⟩
theorem fc_RX11_19 : zFp RX11 19 10 1 true (.object "AlmanacLoom$Parser") := ⟨RX11, TX11, 9, tyX11, rfl, by decide, zinG_X11, Or.inl (zG_in 330 (by decide +kernel) (by decide +kernel)), tyX11_ok, nmX11, rfl, rfl, fun _ => rfl⟩
theorem nw_RX11_23 : zNw RX11 23 0 8 := ⟨RX0, TX0, tyX0, rfl, tyX0_ok, zinG_X0, zG_in 133 (by decide +kernel) (by decide +kernel), zG_in 134 (by decide +kernel) (by decide +kernel), zG_in 47 (by decide +kernel) (by decide +kernel), by decide⟩
theorem mi_RX11_25 : zMi RX11 25 yX0_init cX0_init 2 0 := ⟨Or.inl (zG_in 135 (by decide +kernel) (by decide +kernel)), zG_in 136 (by decide +kernel) (by decide +kernel), rfl, zG_in 47 (by decide +kernel) (by decide +kernel), zG_in 137 (by decide +kernel) (by decide +kernel), ⟨by decide +kernel, by decide +kernel⟩, by decide +kernel⟩
theorem fc_RX11_26 : zFp RX11 26 10 2 true (.object "AlmanacLoom$Almanac") := ⟨RX11, TX11, 9, tyX11, rfl, by decide, zinG_X11, Or.inl (zG_in 331 (by decide +kernel) (by decide +kernel)), tyX11_ok, nmX11, rfl, rfl, fun _ => rfl⟩
theorem nw_RX11_30 : zNw RX11 30 9 8 := ⟨RX10, TX10, tyX10, rfl, tyX10_ok, zinG_X10, zG_in 190 (by decide +kernel) (by decide +kernel), zG_in 191 (by decide +kernel) (by decide +kernel), zG_in 49 (by decide +kernel) (by decide +kernel), by decide⟩
theorem fg_RX11_26 : zFl RX11 26 10 2 := ⟨RX11, TX11, 9, rfl, by decide, zinG_X11, Or.inl (zG_in 331 (by decide +kernel) (by decide +kernel))⟩
theorem mi_RX11_32 : zMi RX11 32 yX10_init cX10_init 2 1 := ⟨Or.inl (zG_in 192 (by decide +kernel) (by decide +kernel)), zG_in 193 (by decide +kernel) (by decide +kernel), rfl, zG_in 49 (by decide +kernel) (by decide +kernel), zG_in 194 (by decide +kernel) (by decide +kernel), ⟨by decide +kernel, by decide +kernel⟩, by decide +kernel⟩
theorem fc_RX11_35 : zFp RX11 35 10 3 true (.object "AlmanacLoom$YearBook") := ⟨RX11, TX11, 9, tyX11, rfl, by decide, zinG_X11, Or.inl (zG_in 332 (by decide +kernel) (by decide +kernel)), tyX11_ok, nmX11, rfl, rfl, fun _ => rfl⟩
theorem fc_RX11_39 : zFp RX11 39 10 4 true (.object "AlmanacLoom$YearBook") := ⟨RX11, TX11, 9, tyX11, rfl, by decide, zinG_X11, Or.inl (zG_in 333 (by decide +kernel) (by decide +kernel)), tyX11_ok, nmX11, rfl, rfl, fun _ => rfl⟩
theorem nw_RX11_42 : zNw RX11 42 5 6 := ⟨RX6, TX6, tyX6, rfl, tyX6_ok, zinG_X6, zG_in 246 (by decide +kernel) (by decide +kernel), zG_in 247 (by decide +kernel) (by decide +kernel), zG_in 51 (by decide +kernel) (by decide +kernel), by decide⟩
theorem mi_RX11_44 : zMi RX11 44 yX6_init cX6_init 2 1 := ⟨Or.inl (zG_in 248 (by decide +kernel) (by decide +kernel)), zG_in 249 (by decide +kernel) (by decide +kernel), rfl, zG_in 51 (by decide +kernel) (by decide +kernel), zG_in 250 (by decide +kernel) (by decide +kernel), ⟨by decide +kernel, by decide +kernel⟩, by decide +kernel⟩
theorem fc_RX11_45 : zFp RX11 45 10 5 true (.object "AlmanacLoom$PlainBook") := ⟨RX11, TX11, 9, tyX11, rfl, by decide, zinG_X11, Or.inl (zG_in 334 (by decide +kernel) (by decide +kernel)), tyX11_ok, nmX11, rfl, rfl, fun _ => rfl⟩
theorem nw_RX11_49 : zNw RX11 49 6 4 := ⟨RX7, TX7, tyX7, rfl, tyX7_ok, zinG_X7, zG_in 275 (by decide +kernel) (by decide +kernel), zG_in 276 (by decide +kernel) (by decide +kernel), zG_in 52 (by decide +kernel) (by decide +kernel), by decide⟩
theorem mi_RX11_51 : zMi RX11 51 yX7_init cX7_init 1 0 := ⟨Or.inr ⟨"AlmanacLoom", zG_in 277 (by decide +kernel) (by decide +kernel)⟩, zG_in 278 (by decide +kernel) (by decide +kernel), rfl, zG_in 52 (by decide +kernel) (by decide +kernel), zG_in 279 (by decide +kernel) (by decide +kernel), ⟨by decide +kernel, by decide +kernel⟩, by decide +kernel⟩
theorem fc_RX11_52 : zFp RX11 52 10 6 true (.object "AlmanacLoom$Solver") := ⟨RX11, TX11, 9, tyX11, rfl, by decide, zinG_X11, Or.inl (zG_in 335 (by decide +kernel) (by decide +kernel)), tyX11_ok, nmX11, rfl, rfl, fun _ => rfl⟩
theorem nw_RX11_56 : zNw RX11 56 1 8 := ⟨RX1, TX1, tyX1, rfl, tyX1_ok, zinG_X1, zG_in 296 (by decide +kernel) (by decide +kernel), zG_in 297 (by decide +kernel) (by decide +kernel), zG_in 53 (by decide +kernel) (by decide +kernel), by decide⟩
theorem mi_RX11_58 : zMi RX11 58 yX1_init cX1_init 1 0 := ⟨Or.inr ⟨"AlmanacLoom", zG_in 298 (by decide +kernel) (by decide +kernel)⟩, zG_in 299 (by decide +kernel) (by decide +kernel), rfl, zG_in 53 (by decide +kernel) (by decide +kernel), zG_in 300 (by decide +kernel) (by decide +kernel), ⟨by decide +kernel, by decide +kernel⟩, by decide +kernel⟩
theorem fc_RX11_59 : zFp RX11 59 10 7 true (.object "AlmanacLoom$Belfry") := ⟨RX11, TX11, 9, tyX11, rfl, by decide, zinG_X11, Or.inl (zG_in 336 (by decide +kernel) (by decide +kernel)), tyX11_ok, nmX11, rfl, rfl, fun _ => rfl⟩
theorem fc_RX11_63 : zFp RX11 63 10 8 false .int := ⟨RX11, TX11, 9, tyX11, rfl, by decide, zinG_X11, Or.inl (zG_in 337 (by decide +kernel) (by decide +kernel)), tyX11_ok, nmX11, rfl, rfl, fun h => nomatch h⟩
def f_Txt_init (a : Nat) (m : Mm) : Option Mm :=
  if zN m = a + 1 then zLet (zNew m (a + 1)) fun m1 =>
  if a < zN m1 then zLet (wR m1 a 0 (a + 1)) fun m2 =>
  some m2
  else none else none
def f_Cod_init (a : Nat) (m : Mm) : Option Mm :=
  if zN m = a + 1 then zLet (zNew m (a + 1)) fun m1 =>
  if a < zN m1 then zLet (wR m1 a 0 (a + 1)) fun m2 =>
  if zN m2 = a + 2 then zLet (zNew m2 (a + 2)) fun m3 =>
  if a < zN m3 then zLet (wR m3 a 1 (a + 2)) fun m4 =>
  some m4
  else none else none else none else none
def f_Wal_init (a : Nat) (m : Mm) : Option Mm :=
  some m
  
def f_Fea_init (a : Nat) (m : Mm) : Option Mm :=
  if zN m = a + 1 then zLet (zNew m (a + 1)) fun m1 =>
  zBV (f_Txt_init (a + 1) m1) fun m2 =>
  if a < zN m2 then zLet (wR m2 a 0 (a + 1)) fun m3 =>
  if zN m3 = a + 3 then zLet (zNew m3 (a + 3)) fun m4 =>
  zBV (f_Cod_init (a + 3) m4) fun m5 =>
  if a < zN m5 then zLet (wR m5 a 1 (a + 3)) fun m6 =>
  some m6
  else none else none else none else none
def f_Boo_init (a : Nat) (q : Nat) (m : Mm) : Option Mm :=
  if zN m = a + 1 then zLet (zNew m (a + 1)) fun m1 =>
  zBV (f_Wal_init (a + 1) m1) fun m2 =>
  if a < zN m2 then zLet (wR m2 a 1 (a + 1)) fun m3 =>
  if zN m3 = a + 2 then zLet (zNew m3 (a + 2)) fun m4 =>
  if a < zN m4 then zLet (wR m4 a 2 (a + 2)) fun m5 =>
  if zN m5 = a + 3 then zLet (zNew m5 (a + 3)) fun m6 =>
  if a < zN m6 then zLet (wR m6 a 3 (a + 3)) fun m7 =>
  if zN m7 = a + 4 then zLet (zNew m7 (a + 4)) fun m8 =>
  if a < zN m8 then zLet (wR m8 a 4 (a + 4)) fun m9 =>
  if zN m9 = a + 5 then zLet (zNew m9 (a + 5)) fun m10 =>
  if a < zN m10 then zLet (wR m10 a 5 (a + 5)) fun m11 =>
  if a < zN m11 then zLet (wR m11 a 0 q) fun m12 =>
  some m12
  else none else none else none else none else none else none else none else none else none else none else none
def f_Pla_init (a : Nat) (q : Nat) (m : Mm) : Option Mm :=
  if zN m = a + 1 then zLet (zNew m (a + 1)) fun m1 =>
  zBV (f_Wal_init (a + 1) m1) fun m2 =>
  if a < zN m2 then zLet (wR m2 a 1 (a + 1)) fun m3 =>
  if zN m3 = a + 2 then zLet (zNew m3 (a + 2)) fun m4 =>
  if a < zN m4 then zLet (wR m4 a 2 (a + 2)) fun m5 =>
  if zN m5 = a + 3 then zLet (zNew m5 (a + 3)) fun m6 =>
  if a < zN m6 then zLet (wR m6 a 3 (a + 3)) fun m7 =>
  if a < zN m7 then zLet (wR m7 a 0 q) fun m8 =>
  if zN m8 = a + 4 then zLet (zNew m8 (a + 4)) fun m9 =>
  zBV (f_Txt_init (a + 4) m9) fun m10 =>
  if a < zN m10 then zLet (wR m10 a 4 (a + 4)) fun m11 =>
  some m11
  else none else none else none else none else none else none else none else none else none
def f_Par_init (a : Nat) (m : Mm) : Option Mm :=
  if zN m = a + 1 then zLet (zNew m (a + 1)) fun m1 =>
  zBV (f_Cod_init (a + 1) m1) fun m2 =>
  if a < zN m2 then zLet (wR m2 a 0 (a + 1)) fun m3 =>
  if zN m3 = a + 4 then zLet (zNew m3 (a + 4)) fun m4 =>
  zBV (f_Txt_init (a + 4) m4) fun m5 =>
  if a < zN m5 then zLet (wR m5 a 1 (a + 4)) fun m6 =>
  some m6
  else none else none else none else none
def f_Sol_init (a : Nat) (m : Mm) : Option Mm :=
  if zN m = a + 1 then zLet (zNew m (a + 1)) fun m1 =>
  zBV (f_Cod_init (a + 1) m1) fun m2 =>
  if a < zN m2 then zLet (wR m2 a 0 (a + 1)) fun m3 =>
  some m3
  else none else none
def f_Bel_init (a : Nat) (m : Mm) : Option Mm :=
  if zN m = a + 1 then zLet (zNew m (a + 1)) fun m1 =>
  if a < zN m1 then zLet (wR m1 a 0 (a + 1)) fun m2 =>
  if zN m2 = a + 2 then zLet (zNew m2 (a + 2)) fun m3 =>
  if a < zN m3 then zLet (wR m3 a 1 (a + 2)) fun m4 =>
  if zN m4 = a + 3 then zLet (zNew m4 (a + 3)) fun m5 =>
  if a < zN m5 then zLet (wR m5 a 2 (a + 3)) fun m6 =>
  if zN m6 = a + 4 then zLet (zNew m6 (a + 4)) fun m7 =>
  if a < zN m7 then zLet (wR m7 a 4 (a + 4)) fun m8 =>
  if zN m8 = a + 5 then zLet (zNew m8 (a + 5)) fun m9 =>
  if a < zN m9 then zLet (wR m9 a 5 (a + 5)) fun m10 =>
  if zN m10 = a + 6 then zLet (zNewM m10 (a + 6) (zLn (a + 6))) fun m11 =>
  if a < zN m11 then zLet (wR m11 a 6 (a + 6)) fun m12 =>
  some m12
  else none else none else none else none else none else none else none else none else none else none else none else none
def f_Alm_loop (a : Nat) : Nat → Nat → Mm → Option Mm
  | 0, _, _ => none
  | k + 1, i, m => if (20 : Int32) ≤ i3 (i : Int) then some m else
    if a < zN m ∧ zR m a 0 = a + 1 then
    if zN m = a + 7 + 6 * i then zLet (zNew m (a + 7 + 6 * i)) fun m1 =>
    zBV (f_Fea_init (a + 7 + 6 * i) m1) fun m2 =>
    if (a + 1 < zN m2 ∧ a + 7 + 6 * i < zN m2) ∧ zIn (i3 (i : Int)) (zLn (a + 1)) then zLet (wR m2 (a + 1) (zIx (i3 (i : Int))) (a + 7 + 6 * i)) fun m3 =>
    f_Alm_loop a k (i + 1) m3
    else none else none else none
def f_Alm_init (a : Nat) (m : Mm) : Option Mm :=
  if zN m = a + 1 then zLet (zNew m (a + 1)) fun m1 =>
  if a < zN m1 then zLet (wR m1 a 0 (a + 1)) fun m2 =>
  if zN m2 = a + 2 then zLet (zNew m2 (a + 2)) fun m3 =>
  if a < zN m3 then zLet (wR m3 a 1 (a + 2)) fun m4 =>
  if zN m4 = a + 3 then zLet (zNew m4 (a + 3)) fun m5 =>
  if a < zN m5 then zLet (wR m5 a 2 (a + 3)) fun m6 =>
  if zN m6 = a + 4 then zLet (zNew m6 (a + 4)) fun m7 =>
  if a < zN m7 then zLet (wR m7 a 4 (a + 4)) fun m8 =>
  if zN m8 = a + 5 then zLet (zNew m8 (a + 5)) fun m9 =>
  if a < zN m9 then zLet (wR m9 a 5 (a + 5)) fun m10 =>
  if zN m10 = a + 6 then zLet (zNew m10 (a + 6)) fun m11 =>
  if a < zN m11 then zLet (wR m11 a 6 (a + 6)) fun m12 =>
  f_Alm_loop a 21 0 m12
  else none else none else none else none else none else none else none else none else none else none else none else none
def f_Loo_init (a : Nat) (m : Mm) : Option Mm :=
  if zN m = a + 1 then zLet (zNew m (a + 1)) fun m1 =>
  zBV (f_Txt_init (a + 1) m1) fun m2 =>
  if a < zN m2 then zLet (wR m2 a 0 (a + 1)) fun m3 =>
  if zN m3 = a + 3 then zLet (zNew m3 (a + 3)) fun m4 =>
  zBV (f_Par_init (a + 3) m4) fun m5 =>
  if a < zN m5 then zLet (wR m5 a 1 (a + 3)) fun m6 =>
  if zN m6 = a + 9 then zLet (zNew m6 (a + 9)) fun m7 =>
  zBV (f_Alm_init (a + 9) m7) fun m8 =>
  if a < zN m8 then zLet (wR m8 a 2 (a + 9)) fun m9 =>
  if zN m9 = a + 136 then zLet (zNew m9 (a + 136)) fun m10 =>
  if a < zN m10 ∧ zR m10 a 2 ≠ 0 then
  zBV (f_Boo_init (a + 136) (zR m10 a 2) m10) fun m11 =>
  if a < zN m11 then zLet (wR m11 a 3 (a + 136)) fun m12 =>
  if zN m12 = a + 142 then zLet (zNew m12 (a + 142)) fun m13 =>
  if a < zN m13 ∧ zR m13 a 2 ≠ 0 then
  zBV (f_Boo_init (a + 142) (zR m13 a 2) m13) fun m14 =>
  if a < zN m14 then zLet (wR m14 a 4 (a + 142)) fun m15 =>
  if zN m15 = a + 148 then zLet (zNew m15 (a + 148)) fun m16 =>
  if a < zN m16 ∧ zR m16 a 2 ≠ 0 then
  zBV (f_Pla_init (a + 148) (zR m16 a 2) m16) fun m17 =>
  if a < zN m17 then zLet (wR m17 a 5 (a + 148)) fun m18 =>
  if zN m18 = a + 154 then zLet (zNew m18 (a + 154)) fun m19 =>
  zBV (f_Sol_init (a + 154) m19) fun m20 =>
  if a < zN m20 then zLet (wR m20 a 6 (a + 154)) fun m21 =>
  if zN m21 = a + 158 then zLet (zNew m21 (a + 158)) fun m22 =>
  zBV (f_Bel_init (a + 158) m22) fun m23 =>
  if a < zN m23 then zLet (wR m23 a 7 (a + 158)) fun m24 =>
  if a < zN m24 then zLet (wI m24 a 8 0) fun m25 =>
  some m25
  else none else none else none else none else none else none else none else none else none else none else none else none else none else none else none else none else none else none else none else none
abbrev kk_Txt_init : Kx := (yX8_init.cls, cX8_init, 1, none, [], true)
set_option maxHeartbeats 4000000 in
set_option maxRecDepth 100000 in
theorem c_Txt_init (ω : Wd) (a : Nat) (m : Mm) (hT : zT a = 8) (hz1 : zT (a + 1) = 101) (hl1 : zLn (a + 1) = 40) : Ev ω false 1 1 40 yX8_init cX8_init 1 none [.ref (zad ω a)] m fV (f_Txt_init a m) := by
  refine Ev.of (b := true) (ls := [some (.ref (zad ω a))]) (plainFor_of_name (by decide +kernel)) (fun _ => rfl) rfl (Nat.le_of_ble_eq_true rfl) rfl ?_
  change Sx ω ω false 1 1 40 kk_Txt_init fV 0 0 m 0 _ _ _
  unfold f_Txt_init
  refine x_aload_n dX8_init_0 rfl ?_
  refine i_obj co_RX8 co_i1 co_i2 (by decide) (by decide) dX8_init_1 ?_
  refine x_aload_n dX8_init_4 rfl ?_
  refine x_bipush (v := 40) dX8_init_5 (by decide) ?_
  refine i_newa_char (n := a + 1) (c1 := 1) (s1 := 40) hz1 (by decide) (by rw [hl1]; decide) (by rw [hl1]; decide) ⟨rfl, by rw [hl1]⟩ ⟨(Nat.le_of_ble_eq_true rfl), (Nat.le_of_ble_eq_true rfl)⟩ ca_char dX8_init_7 ?_
  refine i_letM (fun m1 => ?_)
  refine i_putR (q := (a + 1)) fc_RX8_9 (by decide) hT trivial (fun _ => rfl) (fun b => ⟨rfl, rfl⟩) (by omega) dX8_init_9 ?_
  refine i_letM (fun m2 => ?_)
  exact x_vret rfl rfl ⟨(Nat.le_of_ble_eq_true rfl), (Nat.le_of_ble_eq_true rfl)⟩ dX8_init_12
abbrev kk_Cod_init : Kx := (yX3_init.cls, cX3_init, 1, none, [], true)
set_option maxHeartbeats 4000000 in
set_option maxRecDepth 100000 in
theorem c_Cod_init (ω : Wd) (a : Nat) (m : Mm) (hT : zT a = 3) (hz1 : zT (a + 1) = 100) (hl1 : zLn (a + 1) = 40) (hz2 : zT (a + 2) = 100) (hl2 : zLn (a + 2) = 40) : Ev ω false 1 2 80 yX3_init cX3_init 1 none [.ref (zad ω a)] m fV (f_Cod_init a m) := by
  refine Ev.of (b := true) (ls := [some (.ref (zad ω a))]) (plainFor_of_name (by decide +kernel)) (fun _ => rfl) rfl (Nat.le_of_ble_eq_true rfl) rfl ?_
  change Sx ω ω false 1 2 80 kk_Cod_init fV 0 0 m 0 _ _ _
  unfold f_Cod_init
  refine x_aload_n dX3_init_0 rfl ?_
  refine i_obj co_RX3 co_i1 co_i2 (by decide) (by decide) dX3_init_1 ?_
  refine x_aload_n dX3_init_4 rfl ?_
  refine x_bipush (v := 40) dX3_init_5 (by decide) ?_
  refine i_newa_int (n := a + 1) (c1 := 1) (s1 := 40) hz1 (by decide) (by rw [hl1]; decide) (by rw [hl1]; decide) ⟨rfl, by rw [hl1]⟩ ⟨(Nat.le_of_ble_eq_true rfl), (Nat.le_of_ble_eq_true rfl)⟩ ca_int dX3_init_7 ?_
  refine i_letM (fun m1 => ?_)
  refine i_putR (q := (a + 1)) fc_RX3_11 (by decide) hT trivial (fun _ => rfl) (fun b => ⟨rfl, rfl⟩) (by omega) dX3_init_9 ?_
  refine i_letM (fun m2 => ?_)
  refine x_aload_n dX3_init_12 rfl ?_
  refine x_bipush (v := 40) dX3_init_13 (by decide) ?_
  refine i_newa_int (n := a + 2) (c1 := 2) (s1 := 80) hz2 (by decide) (by rw [hl2]; decide) (by rw [hl2]; decide) ⟨rfl, by rw [hl2]⟩ ⟨(Nat.le_of_ble_eq_true rfl), (Nat.le_of_ble_eq_true rfl)⟩ ca_int dX3_init_15 ?_
  refine i_letM (fun m3 => ?_)
  refine i_putR (q := (a + 2)) fc_RX3_15 (by decide) hT trivial (fun _ => rfl) (fun b => ⟨rfl, rfl⟩) (by omega) dX3_init_17 ?_
  refine i_letM (fun m4 => ?_)
  exact x_vret rfl rfl ⟨(Nat.le_of_ble_eq_true rfl), (Nat.le_of_ble_eq_true rfl)⟩ dX3_init_20
abbrev kk_Wal_init : Kx := (yX9_init.cls, cX9_init, 1, none, [], true)
set_option maxHeartbeats 4000000 in
set_option maxRecDepth 100000 in
theorem c_Wal_init (ω : Wd) (a : Nat) (m : Mm) (hT : zT a = 9) : Ev ω false 1 0 0 yX9_init cX9_init 1 none [.ref (zad ω a)] m fV (f_Wal_init a m) := by
  refine Ev.of (b := true) (ls := [some (.ref (zad ω a))]) (plainFor_of_name (by decide +kernel)) (fun _ => rfl) rfl (Nat.le_of_ble_eq_true rfl) rfl ?_
  change Sx ω ω false 1 0 0 kk_Wal_init fV 0 0 m 0 _ _ _
  unfold f_Wal_init
  refine x_aload_n dX9_init_0 rfl ?_
  refine i_obj co_RX9 co_i1 co_i2 (by decide) (by decide) dX9_init_1 ?_
  exact x_vret rfl rfl ⟨(Nat.le_of_ble_eq_true rfl), (Nat.le_of_ble_eq_true rfl)⟩ dX9_init_4
abbrev kk_Fea_init : Kx := (yX4_init.cls, cX4_init, 1, none, [], true)
set_option maxHeartbeats 4000000 in
set_option maxRecDepth 100000 in
theorem c_Fea_init (ω : Wd) (a : Nat) (m : Mm) (hT : zT a = 4) (hz1 : zT (a + 1) = 8) (hz2 : zT (a + 2) = 101) (hl2 : zLn (a + 2) = 40) (hz3 : zT (a + 3) = 3) (hz4 : zT (a + 4) = 100) (hl4 : zLn (a + 4) = 40) (hz5 : zT (a + 5) = 100) (hl5 : zLn (a + 5) = 40) : Ev ω false 2 5 126 yX4_init cX4_init 1 none [.ref (zad ω a)] m fV (f_Fea_init a m) := by
  refine Ev.of (b := true) (ls := [some (.ref (zad ω a))]) (plainFor_of_name (by decide +kernel)) (fun _ => rfl) rfl (Nat.le_of_ble_eq_true rfl) rfl ?_
  change Sx ω ω false 2 5 126 kk_Fea_init fV 0 0 m 0 _ _ _
  unfold f_Fea_init
  refine x_aload_n dX4_init_0 rfl ?_
  refine i_obj co_RX4 co_i1 co_i2 (by decide) (by decide) dX4_init_1 ?_
  refine x_aload_n dX4_init_4 rfl ?_
  refine i_new (n := a + 1) (c1 := 1) (s1 := 2) nw_RX4_7 hz1 ⟨rfl, rfl⟩ ⟨(Nat.le_of_ble_eq_true rfl), (Nat.le_of_ble_eq_true rfl)⟩ dX4_init_5 ?_
  refine i_letM (fun m1 => ?_)
  refine x_dup dX4_init_8 rfl ?_
  refine i_call (a := a + 1) (As := []) (rest := [.ref (zad ω (a + 1)), .ref (zad ω a)]) (c1 := 2) (s1 := 42) (c_Txt_init ω (a + 1) m1 hz1 hz2 hl2) mi_RX4_9 rfl (Nat.le_of_ble_eq_true rfl) (Nat.le_of_ble_eq_true rfl) (Nat.le_of_ble_eq_true rfl) ⟨rfl, rfl⟩ ⟨(Nat.le_of_ble_eq_true rfl), (Nat.le_of_ble_eq_true rfl)⟩ dX4_init_9 (fun m2 => ?_)
  refine i_putR (q := (a + 1)) fc_RX4_10 (by decide) hT trivial (fun _ => rfl) (fun b => ⟨rfl, rfl⟩) (by omega) dX4_init_12 ?_
  refine i_letM (fun m3 => ?_)
  refine x_aload_n dX4_init_15 rfl ?_
  refine i_new (n := a + 3) (c1 := 3) (s1 := 46) nw_RX4_16 hz3 ⟨rfl, rfl⟩ ⟨(Nat.le_of_ble_eq_true rfl), (Nat.le_of_ble_eq_true rfl)⟩ dX4_init_16 ?_
  refine i_letM (fun m4 => ?_)
  refine x_dup dX4_init_19 rfl ?_
  refine i_call (a := a + 3) (As := []) (rest := [.ref (zad ω (a + 3)), .ref (zad ω a)]) (c1 := 5) (s1 := 126) (c_Cod_init ω (a + 3) m4 hz3 hz4 hl4 hz5 hl5) mi_RX4_18 rfl (Nat.le_of_ble_eq_true rfl) (Nat.le_of_ble_eq_true rfl) (Nat.le_of_ble_eq_true rfl) ⟨rfl, rfl⟩ ⟨(Nat.le_of_ble_eq_true rfl), (Nat.le_of_ble_eq_true rfl)⟩ dX4_init_20 (fun m5 => ?_)
  refine i_putR (q := (a + 3)) fc_RX4_19 (by decide) hT trivial (fun _ => rfl) (fun b => ⟨rfl, rfl⟩) (by omega) dX4_init_23 ?_
  refine i_letM (fun m6 => ?_)
  exact x_vret rfl rfl ⟨(Nat.le_of_ble_eq_true rfl), (Nat.le_of_ble_eq_true rfl)⟩ dX4_init_26
abbrev kk_Boo_init : Kx := (yX10_init.cls, cX10_init, 2, none, [], true)
set_option maxHeartbeats 4000000 in
set_option maxRecDepth 100000 in
theorem c_Boo_init (ω : Wd) (a : Nat) (q : Nat) (m : Mm) (hT : zT a = 10) (hz1 : zT (a + 1) = 9) (hz2 : zT (a + 2) = 100) (hl2 : zLn (a + 2) = 20) (hz3 : zT (a + 3) = 100) (hl3 : zLn (a + 3) = 20) (hz4 : zT (a + 4) = 100) (hl4 : zLn (a + 4) = 20) (hz5 : zT (a + 5) = 100) (hl5 : zLn (a + 5) = 366) (hq : q ≠ 0) : Ev ω false 2 5 432 yX10_init cX10_init 2 none [.ref (zad ω a), .ref (zad ω q)] m fV (f_Boo_init a q m) := by
  refine Ev.of (b := true) (ls := [some (.ref (zad ω a)), some (.ref (zad ω q))]) (plainFor_of_name (by decide +kernel)) (fun _ => rfl) rfl (Nat.le_of_ble_eq_true rfl) rfl ?_
  change Sx ω ω false 2 5 432 kk_Boo_init fV 0 0 m 0 _ _ _
  unfold f_Boo_init
  refine x_aload_n dX10_init_0 rfl ?_
  refine i_obj co_RX10 co_i1 co_i2 (by decide) (by decide) dX10_init_1 ?_
  refine x_aload_n dX10_init_4 rfl ?_
  refine i_new (n := a + 1) (c1 := 1) (s1 := 6) nw_RX10_9 hz1 ⟨rfl, rfl⟩ ⟨(Nat.le_of_ble_eq_true rfl), (Nat.le_of_ble_eq_true rfl)⟩ dX10_init_5 ?_
  refine i_letM (fun m1 => ?_)
  refine x_dup dX10_init_8 rfl ?_
  refine i_call (a := a + 1) (As := []) (rest := [.ref (zad ω (a + 1)), .ref (zad ω a)]) (c1 := 1) (s1 := 6) (c_Wal_init ω (a + 1) m1 hz1 ) mi_RX10_11 rfl (Nat.le_of_ble_eq_true rfl) (Nat.le_of_ble_eq_true rfl) (Nat.le_of_ble_eq_true rfl) ⟨rfl, rfl⟩ ⟨(Nat.le_of_ble_eq_true rfl), (Nat.le_of_ble_eq_true rfl)⟩ dX10_init_9 (fun m2 => ?_)
  refine i_putR (q := (a + 1)) fc_RX10_12 (by decide) hT trivial (fun _ => rfl) (fun b => ⟨rfl, rfl⟩) (by omega) dX10_init_12 ?_
  refine i_letM (fun m3 => ?_)
  refine x_aload_n dX10_init_15 rfl ?_
  refine x_bipush (v := 20) dX10_init_16 (by decide) ?_
  refine i_newa_int (n := a + 2) (c1 := 2) (s1 := 26) hz2 (by decide) (by rw [hl2]; decide) (by rw [hl2]; decide) ⟨rfl, by rw [hl2]⟩ ⟨(Nat.le_of_ble_eq_true rfl), (Nat.le_of_ble_eq_true rfl)⟩ ca_int dX10_init_18 ?_
  refine i_letM (fun m4 => ?_)
  refine i_putR (q := (a + 2)) fc_RX10_20 (by decide) hT trivial (fun _ => rfl) (fun b => ⟨rfl, rfl⟩) (by omega) dX10_init_20 ?_
  refine i_letM (fun m5 => ?_)
  refine x_aload_n dX10_init_23 rfl ?_
  refine x_bipush (v := 20) dX10_init_24 (by decide) ?_
  refine i_newa_int (n := a + 3) (c1 := 3) (s1 := 46) hz3 (by decide) (by rw [hl3]; decide) (by rw [hl3]; decide) ⟨rfl, by rw [hl3]⟩ ⟨(Nat.le_of_ble_eq_true rfl), (Nat.le_of_ble_eq_true rfl)⟩ ca_int dX10_init_26 ?_
  refine i_letM (fun m6 => ?_)
  refine i_putR (q := (a + 3)) fc_RX10_24 (by decide) hT trivial (fun _ => rfl) (fun b => ⟨rfl, rfl⟩) (by omega) dX10_init_28 ?_
  refine i_letM (fun m7 => ?_)
  refine x_aload_n dX10_init_31 rfl ?_
  refine x_bipush (v := 20) dX10_init_32 (by decide) ?_
  refine i_newa_int (n := a + 4) (c1 := 4) (s1 := 66) hz4 (by decide) (by rw [hl4]; decide) (by rw [hl4]; decide) ⟨rfl, by rw [hl4]⟩ ⟨(Nat.le_of_ble_eq_true rfl), (Nat.le_of_ble_eq_true rfl)⟩ ca_int dX10_init_34 ?_
  refine i_letM (fun m8 => ?_)
  refine i_putR (q := (a + 4)) fc_RX10_27 (by decide) hT trivial (fun _ => rfl) (fun b => ⟨rfl, rfl⟩) (by omega) dX10_init_36 ?_
  refine i_letM (fun m9 => ?_)
  refine x_aload_n dX10_init_39 rfl ?_
  refine x_sipush (v := 366) dX10_init_40 (by decide) ?_
  refine i_newa_int (n := a + 5) (c1 := 5) (s1 := 432) hz5 (by decide) (by rw [hl5]; decide) (by rw [hl5]; decide) ⟨rfl, by rw [hl5]⟩ ⟨(Nat.le_of_ble_eq_true rfl), (Nat.le_of_ble_eq_true rfl)⟩ ca_int dX10_init_43 ?_
  refine i_letM (fun m10 => ?_)
  refine i_putR (q := (a + 5)) fc_RX10_30 (by decide) hT trivial (fun _ => rfl) (fun b => ⟨rfl, rfl⟩) (by omega) dX10_init_45 ?_
  refine i_letM (fun m11 => ?_)
  refine x_aload_n dX10_init_48 rfl ?_
  refine x_aload_n dX10_init_49 rfl ?_
  refine i_putR (q := q) fc_RX10_33 (by decide) hT trivial (fun _ => rfl) (fun b => ⟨rfl, rfl⟩) hq dX10_init_50 ?_
  refine i_letM (fun m12 => ?_)
  exact x_vret rfl rfl ⟨(Nat.le_of_ble_eq_true rfl), (Nat.le_of_ble_eq_true rfl)⟩ dX10_init_53
abbrev kk_Pla_init : Kx := (yX6_init.cls, cX6_init, 2, none, [], true)
set_option maxHeartbeats 4000000 in
set_option maxRecDepth 100000 in
theorem c_Pla_init (ω : Wd) (a : Nat) (q : Nat) (m : Mm) (hT : zT a = 6) (hz1 : zT (a + 1) = 9) (hz2 : zT (a + 2) = 100) (hl2 : zLn (a + 2) = 20) (hz3 : zT (a + 3) = 100) (hl3 : zLn (a + 3) = 20) (hz4 : zT (a + 4) = 8) (hz5 : zT (a + 5) = 101) (hl5 : zLn (a + 5) = 40) (hq : q ≠ 0) : Ev ω false 2 5 88 yX6_init cX6_init 2 none [.ref (zad ω a), .ref (zad ω q)] m fV (f_Pla_init a q m) := by
  refine Ev.of (b := true) (ls := [some (.ref (zad ω a)), some (.ref (zad ω q))]) (plainFor_of_name (by decide +kernel)) (fun _ => rfl) rfl (Nat.le_of_ble_eq_true rfl) rfl ?_
  change Sx ω ω false 2 5 88 kk_Pla_init fV 0 0 m 0 _ _ _
  unfold f_Pla_init
  refine x_aload_n dX6_init_0 rfl ?_
  refine i_obj co_RX6 co_i1 co_i2 (by decide) (by decide) dX6_init_1 ?_
  refine x_aload_n dX6_init_4 rfl ?_
  refine i_new (n := a + 1) (c1 := 1) (s1 := 6) nw_RX6_11 hz1 ⟨rfl, rfl⟩ ⟨(Nat.le_of_ble_eq_true rfl), (Nat.le_of_ble_eq_true rfl)⟩ dX6_init_5 ?_
  refine i_letM (fun m1 => ?_)
  refine x_dup dX6_init_8 rfl ?_
  refine i_call (a := a + 1) (As := []) (rest := [.ref (zad ω (a + 1)), .ref (zad ω a)]) (c1 := 1) (s1 := 6) (c_Wal_init ω (a + 1) m1 hz1 ) mi_RX6_13 rfl (Nat.le_of_ble_eq_true rfl) (Nat.le_of_ble_eq_true rfl) (Nat.le_of_ble_eq_true rfl) ⟨rfl, rfl⟩ ⟨(Nat.le_of_ble_eq_true rfl), (Nat.le_of_ble_eq_true rfl)⟩ dX6_init_9 (fun m2 => ?_)
  refine i_putR (q := (a + 1)) fc_RX6_14 (by decide) hT trivial (fun _ => rfl) (fun b => ⟨rfl, rfl⟩) (by omega) dX6_init_12 ?_
  refine i_letM (fun m3 => ?_)
  refine x_aload_n dX6_init_15 rfl ?_
  refine x_bipush (v := 20) dX6_init_16 (by decide) ?_
  refine i_newa_int (n := a + 2) (c1 := 2) (s1 := 26) hz2 (by decide) (by rw [hl2]; decide) (by rw [hl2]; decide) ⟨rfl, by rw [hl2]⟩ ⟨(Nat.le_of_ble_eq_true rfl), (Nat.le_of_ble_eq_true rfl)⟩ ca_int dX6_init_18 ?_
  refine i_letM (fun m4 => ?_)
  refine i_putR (q := (a + 2)) fc_RX6_22 (by decide) hT trivial (fun _ => rfl) (fun b => ⟨rfl, rfl⟩) (by omega) dX6_init_20 ?_
  refine i_letM (fun m5 => ?_)
  refine x_aload_n dX6_init_23 rfl ?_
  refine x_bipush (v := 20) dX6_init_24 (by decide) ?_
  refine i_newa_int (n := a + 3) (c1 := 3) (s1 := 46) hz3 (by decide) (by rw [hl3]; decide) (by rw [hl3]; decide) ⟨rfl, by rw [hl3]⟩ ⟨(Nat.le_of_ble_eq_true rfl), (Nat.le_of_ble_eq_true rfl)⟩ ca_int dX6_init_26 ?_
  refine i_letM (fun m6 => ?_)
  refine i_putR (q := (a + 3)) fc_RX6_26 (by decide) hT trivial (fun _ => rfl) (fun b => ⟨rfl, rfl⟩) (by omega) dX6_init_28 ?_
  refine i_letM (fun m7 => ?_)
  refine x_aload_n dX6_init_31 rfl ?_
  refine x_aload_n dX6_init_32 rfl ?_
  refine i_putR (q := q) fc_RX6_29 (by decide) hT trivial (fun _ => rfl) (fun b => ⟨rfl, rfl⟩) hq dX6_init_33 ?_
  refine i_letM (fun m8 => ?_)
  refine x_aload_n dX6_init_36 rfl ?_
  refine i_new (n := a + 4) (c1 := 4) (s1 := 48) nw_RX6_1 hz4 ⟨rfl, rfl⟩ ⟨(Nat.le_of_ble_eq_true rfl), (Nat.le_of_ble_eq_true rfl)⟩ dX6_init_37 ?_
  refine i_letM (fun m9 => ?_)
  refine x_dup dX6_init_40 rfl ?_
  refine i_call (a := a + 4) (As := []) (rest := [.ref (zad ω (a + 4)), .ref (zad ω a)]) (c1 := 5) (s1 := 88) (c_Txt_init ω (a + 4) m9 hz4 hz5 hl5) mi_RX6_33 rfl (Nat.le_of_ble_eq_true rfl) (Nat.le_of_ble_eq_true rfl) (Nat.le_of_ble_eq_true rfl) ⟨rfl, rfl⟩ ⟨(Nat.le_of_ble_eq_true rfl), (Nat.le_of_ble_eq_true rfl)⟩ dX6_init_41 (fun m10 => ?_)
  refine i_putR (q := (a + 4)) fc_RX6_34 (by decide) hT trivial (fun _ => rfl) (fun b => ⟨rfl, rfl⟩) (by omega) dX6_init_44 ?_
  refine i_letM (fun m11 => ?_)
  exact x_vret rfl rfl ⟨(Nat.le_of_ble_eq_true rfl), (Nat.le_of_ble_eq_true rfl)⟩ dX6_init_47
abbrev kk_Par_init : Kx := (yX5_init.cls, cX5_init, 1, none, [], true)
set_option maxHeartbeats 4000000 in
set_option maxRecDepth 100000 in
theorem c_Par_init (ω : Wd) (a : Nat) (m : Mm) (hT : zT a = 5) (hz1 : zT (a + 1) = 3) (hz2 : zT (a + 2) = 100) (hl2 : zLn (a + 2) = 40) (hz3 : zT (a + 3) = 100) (hl3 : zLn (a + 3) = 40) (hz4 : zT (a + 4) = 8) (hz5 : zT (a + 5) = 101) (hl5 : zLn (a + 5) = 40) : Ev ω false 2 5 126 yX5_init cX5_init 1 none [.ref (zad ω a)] m fV (f_Par_init a m) := by
  refine Ev.of (b := true) (ls := [some (.ref (zad ω a))]) (plainFor_of_name (by decide +kernel)) (fun _ => rfl) rfl (Nat.le_of_ble_eq_true rfl) rfl ?_
  change Sx ω ω false 2 5 126 kk_Par_init fV 0 0 m 0 _ _ _
  unfold f_Par_init
  refine x_aload_n dX5_init_0 rfl ?_
  refine i_obj co_RX5 co_i1 co_i2 (by decide) (by decide) dX5_init_1 ?_
  refine x_aload_n dX5_init_4 rfl ?_
  refine i_new (n := a + 1) (c1 := 1) (s1 := 4) nw_RX5_11 hz1 ⟨rfl, rfl⟩ ⟨(Nat.le_of_ble_eq_true rfl), (Nat.le_of_ble_eq_true rfl)⟩ dX5_init_5 ?_
  refine i_letM (fun m1 => ?_)
  refine x_dup dX5_init_8 rfl ?_
  refine i_call (a := a + 1) (As := []) (rest := [.ref (zad ω (a + 1)), .ref (zad ω a)]) (c1 := 3) (s1 := 84) (c_Cod_init ω (a + 1) m1 hz1 hz2 hl2 hz3 hl3) mi_RX5_13 rfl (Nat.le_of_ble_eq_true rfl) (Nat.le_of_ble_eq_true rfl) (Nat.le_of_ble_eq_true rfl) ⟨rfl, rfl⟩ ⟨(Nat.le_of_ble_eq_true rfl), (Nat.le_of_ble_eq_true rfl)⟩ dX5_init_9 (fun m2 => ?_)
  refine i_putR (q := (a + 1)) fc_RX5_14 (by decide) hT trivial (fun _ => rfl) (fun b => ⟨rfl, rfl⟩) (by omega) dX5_init_12 ?_
  refine i_letM (fun m3 => ?_)
  refine x_aload_n dX5_init_15 rfl ?_
  refine i_new (n := a + 4) (c1 := 4) (s1 := 86) nw_RX5_1 hz4 ⟨rfl, rfl⟩ ⟨(Nat.le_of_ble_eq_true rfl), (Nat.le_of_ble_eq_true rfl)⟩ dX5_init_16 ?_
  refine i_letM (fun m4 => ?_)
  refine x_dup dX5_init_19 rfl ?_
  refine i_call (a := a + 4) (As := []) (rest := [.ref (zad ω (a + 4)), .ref (zad ω a)]) (c1 := 5) (s1 := 126) (c_Txt_init ω (a + 4) m4 hz4 hz5 hl5) mi_RX5_20 rfl (Nat.le_of_ble_eq_true rfl) (Nat.le_of_ble_eq_true rfl) (Nat.le_of_ble_eq_true rfl) ⟨rfl, rfl⟩ ⟨(Nat.le_of_ble_eq_true rfl), (Nat.le_of_ble_eq_true rfl)⟩ dX5_init_20 (fun m5 => ?_)
  refine i_putR (q := (a + 4)) fc_RX5_21 (by decide) hT trivial (fun _ => rfl) (fun b => ⟨rfl, rfl⟩) (by omega) dX5_init_23 ?_
  refine i_letM (fun m6 => ?_)
  exact x_vret rfl rfl ⟨(Nat.le_of_ble_eq_true rfl), (Nat.le_of_ble_eq_true rfl)⟩ dX5_init_26
abbrev kk_Sol_init : Kx := (yX7_init.cls, cX7_init, 1, none, [], true)
set_option maxHeartbeats 4000000 in
set_option maxRecDepth 100000 in
theorem c_Sol_init (ω : Wd) (a : Nat) (m : Mm) (hT : zT a = 7) (hz1 : zT (a + 1) = 3) (hz2 : zT (a + 2) = 100) (hl2 : zLn (a + 2) = 40) (hz3 : zT (a + 3) = 100) (hl3 : zLn (a + 3) = 40) : Ev ω false 2 3 84 yX7_init cX7_init 1 none [.ref (zad ω a)] m fV (f_Sol_init a m) := by
  refine Ev.of (b := true) (ls := [some (.ref (zad ω a))]) (plainFor_of_name (by decide +kernel)) (fun _ => rfl) rfl (Nat.le_of_ble_eq_true rfl) rfl ?_
  change Sx ω ω false 2 3 84 kk_Sol_init fV 0 0 m 0 _ _ _
  unfold f_Sol_init
  refine x_aload_n dX7_init_0 rfl ?_
  refine i_obj co_RX7 co_i1 co_i2 (by decide) (by decide) dX7_init_1 ?_
  refine x_aload_n dX7_init_4 rfl ?_
  refine i_new (n := a + 1) (c1 := 1) (s1 := 4) nw_RX7_9 hz1 ⟨rfl, rfl⟩ ⟨(Nat.le_of_ble_eq_true rfl), (Nat.le_of_ble_eq_true rfl)⟩ dX7_init_5 ?_
  refine i_letM (fun m1 => ?_)
  refine x_dup dX7_init_8 rfl ?_
  refine i_call (a := a + 1) (As := []) (rest := [.ref (zad ω (a + 1)), .ref (zad ω a)]) (c1 := 3) (s1 := 84) (c_Cod_init ω (a + 1) m1 hz1 hz2 hl2 hz3 hl3) mi_RX7_11 rfl (Nat.le_of_ble_eq_true rfl) (Nat.le_of_ble_eq_true rfl) (Nat.le_of_ble_eq_true rfl) ⟨rfl, rfl⟩ ⟨(Nat.le_of_ble_eq_true rfl), (Nat.le_of_ble_eq_true rfl)⟩ dX7_init_9 (fun m2 => ?_)
  refine i_putR (q := (a + 1)) fc_RX7_12 (by decide) hT trivial (fun _ => rfl) (fun b => ⟨rfl, rfl⟩) (by omega) dX7_init_12 ?_
  refine i_letM (fun m3 => ?_)
  exact x_vret rfl rfl ⟨(Nat.le_of_ble_eq_true rfl), (Nat.le_of_ble_eq_true rfl)⟩ dX7_init_15
abbrev kk_Bel_init : Kx := (yX1_init.cls, cX1_init, 1, none, [], true)
set_option maxHeartbeats 4000000 in
set_option maxRecDepth 100000 in
theorem c_Bel_init (ω : Wd) (a : Nat) (m : Mm) (hT : zT a = 2) (hz1 : zT (a + 1) = 100) (hl1 : zLn (a + 1) = 6) (hz2 : zT (a + 2) = 100) (hl2 : zLn (a + 2) = 24) (hz3 : zT (a + 3) = 100) (hl3 : zLn (a + 3) = 24) (hz4 : zT (a + 4) = 100) (hl4 : zLn (a + 4) = 24) (hz5 : zT (a + 5) = 100) (hl5 : zLn (a + 5) = 24) (hz6 : zT (a + 6) = 105) (hl6 : zLn (a + 6) = 20) (hr6 : ∀ j, j < 20 → zT (a + 6 + 1 + j) = 100 ∧ zLn (a + 6 + 1 + j) = 36) : Ev ω false 1 26 842 yX1_init cX1_init 1 none [.ref (zad ω a)] m fV (f_Bel_init a m) := by
  refine Ev.of (b := true) (ls := [some (.ref (zad ω a))]) (plainFor_of_name (by decide +kernel)) (fun _ => rfl) rfl (Nat.le_of_ble_eq_true rfl) rfl ?_
  change Sx ω ω false 1 26 842 kk_Bel_init fV 0 0 m 0 _ _ _
  unfold f_Bel_init
  refine x_aload_n dX1_init_0 rfl ?_
  refine i_obj co_RX1 co_i1 co_i2 (by decide) (by decide) dX1_init_1 ?_
  refine x_aload_n dX1_init_4 rfl ?_
  refine x_bipush (v := 6) dX1_init_5 (by decide) ?_
  refine i_newa_int (n := a + 1) (c1 := 1) (s1 := 6) hz1 (by decide) (by rw [hl1]; decide) (by rw [hl1]; decide) ⟨rfl, by rw [hl1]⟩ ⟨(Nat.le_of_ble_eq_true rfl), (Nat.le_of_ble_eq_true rfl)⟩ ca_int dX1_init_7 ?_
  refine i_letM (fun m1 => ?_)
  refine i_putR (q := (a + 1)) fc_RX1_11 (by decide) hT trivial (fun _ => rfl) (fun b => ⟨rfl, rfl⟩) (by omega) dX1_init_9 ?_
  refine i_letM (fun m2 => ?_)
  refine x_aload_n dX1_init_12 rfl ?_
  refine x_bipush (v := 24) dX1_init_13 (by decide) ?_
  refine i_newa_int (n := a + 2) (c1 := 2) (s1 := 30) hz2 (by decide) (by rw [hl2]; decide) (by rw [hl2]; decide) ⟨rfl, by rw [hl2]⟩ ⟨(Nat.le_of_ble_eq_true rfl), (Nat.le_of_ble_eq_true rfl)⟩ ca_int dX1_init_15 ?_
  refine i_letM (fun m3 => ?_)
  refine i_putR (q := (a + 2)) fc_RX1_15 (by decide) hT trivial (fun _ => rfl) (fun b => ⟨rfl, rfl⟩) (by omega) dX1_init_17 ?_
  refine i_letM (fun m4 => ?_)
  refine x_aload_n dX1_init_20 rfl ?_
  refine x_bipush (v := 24) dX1_init_21 (by decide) ?_
  refine i_newa_int (n := a + 3) (c1 := 3) (s1 := 54) hz3 (by decide) (by rw [hl3]; decide) (by rw [hl3]; decide) ⟨rfl, by rw [hl3]⟩ ⟨(Nat.le_of_ble_eq_true rfl), (Nat.le_of_ble_eq_true rfl)⟩ ca_int dX1_init_23 ?_
  refine i_letM (fun m5 => ?_)
  refine i_putR (q := (a + 3)) fc_RX1_18 (by decide) hT trivial (fun _ => rfl) (fun b => ⟨rfl, rfl⟩) (by omega) dX1_init_25 ?_
  refine i_letM (fun m6 => ?_)
  refine x_aload_n dX1_init_28 rfl ?_
  refine x_bipush (v := 24) dX1_init_29 (by decide) ?_
  refine i_newa_int (n := a + 4) (c1 := 4) (s1 := 78) hz4 (by decide) (by rw [hl4]; decide) (by rw [hl4]; decide) ⟨rfl, by rw [hl4]⟩ ⟨(Nat.le_of_ble_eq_true rfl), (Nat.le_of_ble_eq_true rfl)⟩ ca_int dX1_init_31 ?_
  refine i_letM (fun m7 => ?_)
  refine i_putR (q := (a + 4)) fc_RX1_21 (by decide) hT trivial (fun _ => rfl) (fun b => ⟨rfl, rfl⟩) (by omega) dX1_init_33 ?_
  refine i_letM (fun m8 => ?_)
  refine x_aload_n dX1_init_36 rfl ?_
  refine x_bipush (v := 24) dX1_init_37 (by decide) ?_
  refine i_newa_int (n := a + 5) (c1 := 5) (s1 := 102) hz5 (by decide) (by rw [hl5]; decide) (by rw [hl5]; decide) ⟨rfl, by rw [hl5]⟩ ⟨(Nat.le_of_ble_eq_true rfl), (Nat.le_of_ble_eq_true rfl)⟩ ca_int dX1_init_39 ?_
  refine i_letM (fun m9 => ?_)
  refine i_putR (q := (a + 5)) fc_RX1_24 (by decide) hT trivial (fun _ => rfl) (fun b => ⟨rfl, rfl⟩) (by omega) dX1_init_41 ?_
  refine i_letM (fun m10 => ?_)
  refine x_aload_n dX1_init_44 rfl ?_
  refine x_bipush (v := 20) dX1_init_45 (by decide) ?_
  refine x_bipush (v := 36) dX1_init_47 (by decide) ?_
  refine i_newM (n := a + 6) (K := 36) (c1 := 26) (s1 := 842) hz6 (by decide) (by rw [hl6]; decide) (by decide) (by decide) ⟨by rw [hl6]; decide, by decide⟩ (fun j hj => hr6 j (by rw [hl6] at hj; exact hj)) ⟨by rw [hl6], by rw [hl6]⟩ ⟨(Nat.le_of_ble_eq_true rfl), (Nat.le_of_ble_eq_true rfl)⟩ cl_RX1_29 ca_A ca_int dX1_init_49 ?_
  refine i_letM (fun m11 => ?_)
  refine i_putR (q := (a + 6)) fc_RX1_31 (by decide) hT trivial (fun _ => rfl) (fun b => ⟨rfl, rfl⟩) (by omega) dX1_init_53 ?_
  refine i_letM (fun m12 => ?_)
  exact x_vret rfl rfl ⟨(Nat.le_of_ble_eq_true rfl), (Nat.le_of_ble_eq_true rfl)⟩ dX1_init_56
theorem i_guard2 {ω0 ω : Wd} {D mc ms : Nat} {κ : Kx} {α : Type} {φ : α → Zo} {c0 s0 : Nat} {m : Mm} {pc : Nat} {ls : List (Option Value)} {st : List Value} {p q : Prop} {x : Decidable p} {y : Decidable q} {t : Option α} (h : p ↔ q) (k : Sx ω0 ω false D mc ms κ φ c0 s0 m pc ls st (if p then t else none)) : Sx ω0 ω false D mc ms κ φ c0 s0 m pc ls st (if q then t else none) := by
  have e : (if q then t else none) = if p then t else none := by
    by_cases c : p
    · rw [if_pos c, if_pos (h.mp c)]
    · rw [if_neg c, if_neg (fun z => c (h.mpr z))]
  rw [e]
  exact k
abbrev kk_Alm_init : Kx := (yX0_init.cls, cX0_init, 2, none, [], true)
set_option maxHeartbeats 4000000 in
set_option maxRecDepth 100000 in
theorem c_Alm_loop (ω : Wd) (a : Nat) (hT : zT a = 1) (hz1 : zT (a + 1) = 104) (hl1 : zLn (a + 1) = 20) (hF : ∀ i, i < 20 → zT (a + 7 + 6 * i) = 4 ∧ zT (a + 7 + 6 * i + 1) = 8 ∧ zT (a + 7 + 6 * i + 2) = 101 ∧ zLn (a + 7 + 6 * i + 2) = 40 ∧ zT (a + 7 + 6 * i + 3) = 3 ∧ zT (a + 7 + 6 * i + 4) = 100 ∧ zLn (a + 7 + 6 * i + 4) = 40 ∧ zT (a + 7 + 6 * i + 5) = 100 ∧ zLn (a + 7 + 6 * i + 5) = 40) : ∀ (k i : Nat), i ≤ 20 → k + i = 21 → ∀ m : Mm, Sx ω ω false 3 126 2750 kk_Alm_init fV (6 + 6 * i) (150 + 130 * i) m 55 [some (.ref (zad ω a)), some (.int (i3 (i : Int)))] [] (f_Alm_loop a k i m) := by
  intro k
  induction k with
  | zero => intro i hi hk; omega
  | succ k ih =>
    intro i hi hk m
    unfold f_Alm_loop
    refine x_iload_n dX0_init_55 rfl ?_
    refine x_bipush (v := 20) dX0_init_56 (by decide) ?_
    refine x_icmp_ge (tgt := 80) dX0_init_58 (by decide) (fun hc => ?_) (fun hc => ?_)
    · exact x_vret rfl rfl ⟨by omega, by omega⟩ dX0_init_80
    · have hi20 : i < 20 := by
        by_cases e : i < 20
        · exact e
        · exact absurd (show (20 : Int32) ≤ i3 (i : Int) by rw [show i = 20 by omega]; decide) hc
      obtain ⟨g0, g1, g2, g3, g4, g5, g6, g7, g8⟩ := hF i hi20
      refine x_guard (fun hg => ?_)
      refine x_aload_n dX0_init_61 rfl ?_
      refine x_getR fg_RX0_13 (by decide) hT (Or.inr hg.1) (by rw [hg.2]; omega) dX0_init_62 ?_
      rw [hg.2]
      refine x_iload_n dX0_init_65 rfl ?_
      refine i_new (n := a + 7 + 6 * i) (c1 := 6 + 6 * i + 1) (s1 := 150 + 130 * i + 4) nw_RX0_11 g0 ⟨rfl, rfl⟩ ⟨by omega, by omega⟩ dX0_init_66 ?_
      refine i_letM (fun m1 => ?_)
      refine x_dup dX0_init_69 rfl ?_
      refine i_call (a := a + 7 + 6 * i) (As := []) (rest := [.ref (zad ω (a + 7 + 6 * i)), .int (i3 (i : Int)), .ref (zad ω (a + 1))]) (c1 := 6 + 6 * (i + 1)) (s1 := 150 + 130 * (i + 1)) (c_Fea_init ω (a + 7 + 6 * i) m1 g0 g1 g2 g3 g4 g5 g6 g7 g8) mi_RX0_33 rfl (Nat.le_of_ble_eq_true rfl) (Nat.le_of_ble_eq_true rfl) (Nat.le_of_ble_eq_true rfl) ⟨by omega, by omega⟩ ⟨by omega, by omega⟩ dX0_init_70 (fun m2 => ?_)
      refine i_aast (a := a + 1) (q := a + 7 + 6 * i) (i := i3 (i : Int)) hz1 g0 dX0_init_73 (fun _ => ?_)
      refine i_letM (fun m3 => ?_)
      refine x_iinc (i := 1) (v := i3 ((i + 1 : Nat) : Int)) dX0_init_74 rfl (i3_add1 _) (by decide) rfl ?_
      refine x_goto (tgt := 55) dX0_init_77 (by decide) ?_
      exact ih (i + 1) (by omega) (by omega) m3
set_option maxHeartbeats 4000000 in
set_option maxRecDepth 100000 in
theorem c_Alm_init (ω : Wd) (a : Nat) (m : Mm) (hT : zT a = 1) (hz1 : zT (a + 1) = 104) (hl1 : zLn (a + 1) = 20) (hz2 : zT (a + 2) = 100) (hl2 : zLn (a + 2) = 20) (hz3 : zT (a + 3) = 100) (hl3 : zLn (a + 3) = 20) (hz4 : zT (a + 4) = 100) (hl4 : zLn (a + 4) = 30) (hz5 : zT (a + 5) = 100) (hl5 : zLn (a + 5) = 30) (hz6 : zT (a + 6) = 100) (hl6 : zLn (a + 6) = 30) (hF : ∀ i, i < 20 → zT (a + 7 + 6 * i) = 4 ∧ zT (a + 7 + 6 * i + 1) = 8 ∧ zT (a + 7 + 6 * i + 2) = 101 ∧ zLn (a + 7 + 6 * i + 2) = 40 ∧ zT (a + 7 + 6 * i + 3) = 3 ∧ zT (a + 7 + 6 * i + 4) = 100 ∧ zLn (a + 7 + 6 * i + 4) = 40 ∧ zT (a + 7 + 6 * i + 5) = 100 ∧ zLn (a + 7 + 6 * i + 5) = 40) : Ev ω false 3 126 2750 yX0_init cX0_init 2 none [.ref (zad ω a)] m fV (f_Alm_init a m) := by
  refine Ev.of (b := true) (ls := [some (.ref (zad ω a)), none]) (plainFor_of_name (by decide +kernel)) (fun _ => rfl) rfl (Nat.le_of_ble_eq_true rfl) rfl ?_
  change Sx ω ω false 3 126 2750 kk_Alm_init fV 0 0 m 0 _ _ _
  unfold f_Alm_init
  refine x_aload_n dX0_init_0 rfl ?_
  refine i_obj co_RX0 co_i1 co_i2 (by decide) (by decide) dX0_init_1 ?_
  refine x_aload_n dX0_init_4 rfl ?_
  refine x_bipush (v := 20) dX0_init_5 (by decide) ?_
  refine i_newF (n := a + 1) (c1 := 1) (s1 := 20) hz1 (by decide) (by rw [hl1]; decide) (by rw [hl1]; decide) ⟨rfl, by rw [hl1]⟩ ⟨(Nat.le_of_ble_eq_true rfl), (Nat.le_of_ble_eq_true rfl)⟩ cl_RX0_11 ca_F dX0_init_7 ?_
  refine i_letM (fun m1 => ?_)
  refine i_putR (q := (a + 1)) fc_RX0_13 (by decide) hT trivial (fun _ => rfl) (fun b => ⟨rfl, rfl⟩) (by omega) dX0_init_10 ?_
  refine i_letM (fun m2 => ?_)
  refine x_aload_n dX0_init_13 rfl ?_
  refine x_bipush (v := 20) dX0_init_14 (by decide) ?_
  refine i_newa_int (n := a + 2) (c1 := 2) (s1 := 40) hz2 (by decide) (by rw [hl2]; decide) (by rw [hl2]; decide) ⟨rfl, by rw [hl2]⟩ ⟨(Nat.le_of_ble_eq_true rfl), (Nat.le_of_ble_eq_true rfl)⟩ ca_int dX0_init_16 ?_
  refine i_letM (fun m3 => ?_)
  refine i_putR (q := (a + 2)) fc_RX0_17 (by decide) hT trivial (fun _ => rfl) (fun b => ⟨rfl, rfl⟩) (by omega) dX0_init_18 ?_
  refine i_letM (fun m4 => ?_)
  refine x_aload_n dX0_init_21 rfl ?_
  refine x_bipush (v := 20) dX0_init_22 (by decide) ?_
  refine i_newa_int (n := a + 3) (c1 := 3) (s1 := 60) hz3 (by decide) (by rw [hl3]; decide) (by rw [hl3]; decide) ⟨rfl, by rw [hl3]⟩ ⟨(Nat.le_of_ble_eq_true rfl), (Nat.le_of_ble_eq_true rfl)⟩ ca_int dX0_init_24 ?_
  refine i_letM (fun m5 => ?_)
  refine i_putR (q := (a + 3)) fc_RX0_21 (by decide) hT trivial (fun _ => rfl) (fun b => ⟨rfl, rfl⟩) (by omega) dX0_init_26 ?_
  refine i_letM (fun m6 => ?_)
  refine x_aload_n dX0_init_29 rfl ?_
  refine x_bipush (v := 30) dX0_init_30 (by decide) ?_
  refine i_newa_int (n := a + 4) (c1 := 4) (s1 := 90) hz4 (by decide) (by rw [hl4]; decide) (by rw [hl4]; decide) ⟨rfl, by rw [hl4]⟩ ⟨(Nat.le_of_ble_eq_true rfl), (Nat.le_of_ble_eq_true rfl)⟩ ca_int dX0_init_32 ?_
  refine i_letM (fun m7 => ?_)
  refine i_putR (q := (a + 4)) fc_RX0_24 (by decide) hT trivial (fun _ => rfl) (fun b => ⟨rfl, rfl⟩) (by omega) dX0_init_34 ?_
  refine i_letM (fun m8 => ?_)
  refine x_aload_n dX0_init_37 rfl ?_
  refine x_bipush (v := 30) dX0_init_38 (by decide) ?_
  refine i_newa_int (n := a + 5) (c1 := 5) (s1 := 120) hz5 (by decide) (by rw [hl5]; decide) (by rw [hl5]; decide) ⟨rfl, by rw [hl5]⟩ ⟨(Nat.le_of_ble_eq_true rfl), (Nat.le_of_ble_eq_true rfl)⟩ ca_int dX0_init_40 ?_
  refine i_letM (fun m9 => ?_)
  refine i_putR (q := (a + 5)) fc_RX0_27 (by decide) hT trivial (fun _ => rfl) (fun b => ⟨rfl, rfl⟩) (by omega) dX0_init_42 ?_
  refine i_letM (fun m10 => ?_)
  refine x_aload_n dX0_init_45 rfl ?_
  refine x_bipush (v := 30) dX0_init_46 (by decide) ?_
  refine i_newa_int (n := a + 6) (c1 := 6) (s1 := 150) hz6 (by decide) (by rw [hl6]; decide) (by rw [hl6]; decide) ⟨rfl, by rw [hl6]⟩ ⟨(Nat.le_of_ble_eq_true rfl), (Nat.le_of_ble_eq_true rfl)⟩ ca_int dX0_init_48 ?_
  refine i_letM (fun m11 => ?_)
  refine i_putR (q := (a + 6)) fc_RX0_30 (by decide) hT trivial (fun _ => rfl) (fun b => ⟨rfl, rfl⟩) (by omega) dX0_init_50 ?_
  refine i_letM (fun m12 => ?_)
  refine x_iconst (v := 0) dX0_init_53 (by decide) ?_
  refine x_istore_n dX0_init_54 (by decide) rfl ?_
  exact c_Alm_loop ω a hT hz1 hl1 hF 21 0 (by decide) (by decide) m12
abbrev kk_Loo_init : Kx := (yX11_init.cls, cX11_init, 1, none, [], true)
set_option maxHeartbeats 4000000 in
set_option maxRecDepth 100000 in
theorem c_Loo_init (ω : Wd) (a : Nat) (m : Mm) (hT : zT a = 11) (hz1 : zT (a + 1) = 8) (hz2 : zT (a + 2) = 101) (hl2 : zLn (a + 2) = 40) (hz3 : zT (a + 3) = 5) (hz4 : zT (a + 4) = 3) (hz5 : zT (a + 5) = 100) (hl5 : zLn (a + 5) = 40) (hz6 : zT (a + 6) = 100) (hl6 : zLn (a + 6) = 40) (hz7 : zT (a + 7) = 8) (hz8 : zT (a + 8) = 101) (hl8 : zLn (a + 8) = 40) (hz9 : zT (a + 9) = 1) (hz10 : zT (a + 10) = 104) (hl10 : zLn (a + 10) = 20) (hz11 : zT (a + 11) = 100) (hl11 : zLn (a + 11) = 20) (hz12 : zT (a + 12) = 100) (hl12 : zLn (a + 12) = 20) (hz13 : zT (a + 13) = 100) (hl13 : zLn (a + 13) = 30) (hz14 : zT (a + 14) = 100) (hl14 : zLn (a + 14) = 30) (hz15 : zT (a + 15) = 100) (hl15 : zLn (a + 15) = 30) (hF : ∀ i, i < 20 → zT (a + 16 + 6 * i) = 4 ∧ zT (a + 16 + 6 * i + 1) = 8 ∧ zT (a + 16 + 6 * i + 2) = 101 ∧ zLn (a + 16 + 6 * i + 2) = 40 ∧ zT (a + 16 + 6 * i + 3) = 3 ∧ zT (a + 16 + 6 * i + 4) = 100 ∧ zLn (a + 16 + 6 * i + 4) = 40 ∧ zT (a + 16 + 6 * i + 5) = 100 ∧ zLn (a + 16 + 6 * i + 5) = 40) (hz136 : zT (a + 136) = 10) (hz137 : zT (a + 137) = 9) (hz138 : zT (a + 138) = 100) (hl138 : zLn (a + 138) = 20) (hz139 : zT (a + 139) = 100) (hl139 : zLn (a + 139) = 20) (hz140 : zT (a + 140) = 100) (hl140 : zLn (a + 140) = 20) (hz141 : zT (a + 141) = 100) (hl141 : zLn (a + 141) = 366) (hz142 : zT (a + 142) = 10) (hz143 : zT (a + 143) = 9) (hz144 : zT (a + 144) = 100) (hl144 : zLn (a + 144) = 20) (hz145 : zT (a + 145) = 100) (hl145 : zLn (a + 145) = 20) (hz146 : zT (a + 146) = 100) (hl146 : zLn (a + 146) = 20) (hz147 : zT (a + 147) = 100) (hl147 : zLn (a + 147) = 366) (hz148 : zT (a + 148) = 6) (hz149 : zT (a + 149) = 9) (hz150 : zT (a + 150) = 100) (hl150 : zLn (a + 150) = 20) (hz151 : zT (a + 151) = 100) (hl151 : zLn (a + 151) = 20) (hz152 : zT (a + 152) = 8) (hz153 : zT (a + 153) = 101) (hl153 : zLn (a + 153) = 40) (hz154 : zT (a + 154) = 7) (hz155 : zT (a + 155) = 3) (hz156 : zT (a + 156) = 100) (hl156 : zLn (a + 156) = 40) (hz157 : zT (a + 157) = 100) (hl157 : zLn (a + 157) = 40) (hz158 : zT (a + 158) = 2) (hz159 : zT (a + 159) = 100) (hl159 : zLn (a + 159) = 6) (hz160 : zT (a + 160) = 100) (hl160 : zLn (a + 160) = 24) (hz161 : zT (a + 161) = 100) (hl161 : zLn (a + 161) = 24) (hz162 : zT (a + 162) = 100) (hl162 : zLn (a + 162) = 24) (hz163 : zT (a + 163) = 100) (hl163 : zLn (a + 163) = 24) (hz164 : zT (a + 164) = 105) (hl164 : zLn (a + 164) = 20) (hr164 : ∀ j, j < 20 → zT (a + 164 + 1 + j) = 100 ∧ zLn (a + 164 + 1 + j) = 36) : Ev ω false 4 184 4843 yX11_init cX11_init 1 none [.ref (zad ω a)] m fV (f_Loo_init a m) := by
  refine Ev.of (b := true) (ls := [some (.ref (zad ω a))]) (plainFor_of_name (by decide +kernel)) (fun _ => rfl) rfl (Nat.le_of_ble_eq_true rfl) rfl ?_
  change Sx ω ω false 4 184 4843 kk_Loo_init fV 0 0 m 0 _ _ _
  unfold f_Loo_init
  refine x_aload_n dX11_init_0 rfl ?_
  refine i_obj co_RX11 co_i1 co_i2 (by decide) (by decide) dX11_init_1 ?_
  refine x_aload_n dX11_init_4 rfl ?_
  refine i_new (n := a + 1) (c1 := 1) (s1 := 2) nw_RX11_7 hz1 ⟨rfl, rfl⟩ ⟨(Nat.le_of_ble_eq_true rfl), (Nat.le_of_ble_eq_true rfl)⟩ dX11_init_5 ?_
  refine i_letM (fun m1 => ?_)
  refine x_dup dX11_init_8 rfl ?_
  refine i_call (a := a + 1) (As := []) (rest := [.ref (zad ω (a + 1)), .ref (zad ω a)]) (c1 := 2) (s1 := 42) (c_Txt_init ω (a + 1) m1 hz1 hz2 hl2) mi_RX11_9 rfl (Nat.le_of_ble_eq_true rfl) (Nat.le_of_ble_eq_true rfl) (Nat.le_of_ble_eq_true rfl) ⟨rfl, rfl⟩ ⟨(Nat.le_of_ble_eq_true rfl), (Nat.le_of_ble_eq_true rfl)⟩ dX11_init_9 (fun m2 => ?_)
  refine i_putR (q := (a + 1)) fc_RX11_10 (by decide) hT trivial (fun _ => rfl) (fun b => ⟨rfl, rfl⟩) (by omega) dX11_init_12 ?_
  refine i_letM (fun m3 => ?_)
  refine x_aload_n dX11_init_15 rfl ?_
  refine i_new (n := a + 3) (c1 := 3) (s1 := 47) nw_RX11_16 hz3 ⟨rfl, rfl⟩ ⟨(Nat.le_of_ble_eq_true rfl), (Nat.le_of_ble_eq_true rfl)⟩ dX11_init_16 ?_
  refine i_letM (fun m4 => ?_)
  refine x_dup dX11_init_19 rfl ?_
  refine i_call (a := a + 3) (As := []) (rest := [.ref (zad ω (a + 3)), .ref (zad ω a)]) (c1 := 8) (s1 := 173) (c_Par_init ω (a + 3) m4 hz3 hz4 hz5 hl5 hz6 hl6 hz7 hz8 hl8) mi_RX11_18 rfl (Nat.le_of_ble_eq_true rfl) (Nat.le_of_ble_eq_true rfl) (Nat.le_of_ble_eq_true rfl) ⟨rfl, rfl⟩ ⟨(Nat.le_of_ble_eq_true rfl), (Nat.le_of_ble_eq_true rfl)⟩ dX11_init_20 (fun m5 => ?_)
  refine i_putR (q := (a + 3)) fc_RX11_19 (by decide) hT trivial (fun _ => rfl) (fun b => ⟨rfl, rfl⟩) (by omega) dX11_init_23 ?_
  refine i_letM (fun m6 => ?_)
  refine x_aload_n dX11_init_26 rfl ?_
  refine i_new (n := a + 9) (c1 := 9) (s1 := 181) nw_RX11_23 hz9 ⟨rfl, rfl⟩ ⟨(Nat.le_of_ble_eq_true rfl), (Nat.le_of_ble_eq_true rfl)⟩ dX11_init_27 ?_
  refine i_letM (fun m7 => ?_)
  refine x_dup dX11_init_30 rfl ?_
  refine i_call (a := a + 9) (As := []) (rest := [.ref (zad ω (a + 9)), .ref (zad ω a)]) (c1 := 135) (s1 := 2931) (c_Alm_init ω (a + 9) m7 hz9 hz10 hl10 hz11 hl11 hz12 hl12 hz13 hl13 hz14 hl14 hz15 hl15 hF) mi_RX11_25 rfl (Nat.le_of_ble_eq_true rfl) (Nat.le_of_ble_eq_true rfl) (Nat.le_of_ble_eq_true rfl) ⟨rfl, rfl⟩ ⟨(Nat.le_of_ble_eq_true rfl), (Nat.le_of_ble_eq_true rfl)⟩ dX11_init_31 (fun m8 => ?_)
  refine i_putR (q := (a + 9)) fc_RX11_26 (by decide) hT trivial (fun _ => rfl) (fun b => ⟨rfl, rfl⟩) (by omega) dX11_init_34 ?_
  refine i_letM (fun m9 => ?_)
  refine x_aload_n dX11_init_37 rfl ?_
  refine i_new (n := a + 136) (c1 := 136) (s1 := 2939) nw_RX11_30 hz136 ⟨rfl, rfl⟩ ⟨(Nat.le_of_ble_eq_true rfl), (Nat.le_of_ble_eq_true rfl)⟩ dX11_init_38 ?_
  refine i_letM (fun m10 => ?_)
  refine x_dup dX11_init_41 rfl ?_
  refine x_aload_n dX11_init_42 rfl ?_
  refine x_guard (fun hg43 => ?_)
  refine x_getR fg_RX11_26 (by decide) hT (Or.inr hg43.1) hg43.2 dX11_init_43 ?_
  refine i_call (a := a + 136) (As := [.ref (zad ω (zR m10 a 2))]) (rest := [.ref (zad ω (a + 136)), .ref (zad ω a)]) (c1 := 141) (s1 := 3371) (c_Boo_init ω (a + 136) (zR m10 a 2) m10 hz136 hz137 hz138 hl138 hz139 hl139 hz140 hl140 hz141 hl141 hg43.2) mi_RX11_32 rfl (Nat.le_of_ble_eq_true rfl) (Nat.le_of_ble_eq_true rfl) (Nat.le_of_ble_eq_true rfl) ⟨rfl, rfl⟩ ⟨(Nat.le_of_ble_eq_true rfl), (Nat.le_of_ble_eq_true rfl)⟩ dX11_init_46 (fun m11 => ?_)
  refine i_putR (q := (a + 136)) fc_RX11_35 (by decide) hT trivial (fun _ => rfl) (fun b => ⟨rfl, rfl⟩) (by omega) dX11_init_49 ?_
  refine i_letM (fun m12 => ?_)
  refine x_aload_n dX11_init_52 rfl ?_
  refine i_new (n := a + 142) (c1 := 142) (s1 := 3379) nw_RX11_30 hz142 ⟨rfl, rfl⟩ ⟨(Nat.le_of_ble_eq_true rfl), (Nat.le_of_ble_eq_true rfl)⟩ dX11_init_53 ?_
  refine i_letM (fun m13 => ?_)
  refine x_dup dX11_init_56 rfl ?_
  refine x_aload_n dX11_init_57 rfl ?_
  refine x_guard (fun hg58 => ?_)
  refine x_getR fg_RX11_26 (by decide) hT (Or.inr hg58.1) hg58.2 dX11_init_58 ?_
  refine i_call (a := a + 142) (As := [.ref (zad ω (zR m13 a 2))]) (rest := [.ref (zad ω (a + 142)), .ref (zad ω a)]) (c1 := 147) (s1 := 3811) (c_Boo_init ω (a + 142) (zR m13 a 2) m13 hz142 hz143 hz144 hl144 hz145 hl145 hz146 hl146 hz147 hl147 hg58.2) mi_RX11_32 rfl (Nat.le_of_ble_eq_true rfl) (Nat.le_of_ble_eq_true rfl) (Nat.le_of_ble_eq_true rfl) ⟨rfl, rfl⟩ ⟨(Nat.le_of_ble_eq_true rfl), (Nat.le_of_ble_eq_true rfl)⟩ dX11_init_61 (fun m14 => ?_)
  refine i_putR (q := (a + 142)) fc_RX11_39 (by decide) hT trivial (fun _ => rfl) (fun b => ⟨rfl, rfl⟩) (by omega) dX11_init_64 ?_
  refine i_letM (fun m15 => ?_)
  refine x_aload_n dX11_init_67 rfl ?_
  refine i_new (n := a + 148) (c1 := 148) (s1 := 3817) nw_RX11_42 hz148 ⟨rfl, rfl⟩ ⟨(Nat.le_of_ble_eq_true rfl), (Nat.le_of_ble_eq_true rfl)⟩ dX11_init_68 ?_
  refine i_letM (fun m16 => ?_)
  refine x_dup dX11_init_71 rfl ?_
  refine x_aload_n dX11_init_72 rfl ?_
  refine x_guard (fun hg73 => ?_)
  refine x_getR fg_RX11_26 (by decide) hT (Or.inr hg73.1) hg73.2 dX11_init_73 ?_
  refine i_call (a := a + 148) (As := [.ref (zad ω (zR m16 a 2))]) (rest := [.ref (zad ω (a + 148)), .ref (zad ω a)]) (c1 := 153) (s1 := 3905) (c_Pla_init ω (a + 148) (zR m16 a 2) m16 hz148 hz149 hz150 hl150 hz151 hl151 hz152 hz153 hl153 hg73.2) mi_RX11_44 rfl (Nat.le_of_ble_eq_true rfl) (Nat.le_of_ble_eq_true rfl) (Nat.le_of_ble_eq_true rfl) ⟨rfl, rfl⟩ ⟨(Nat.le_of_ble_eq_true rfl), (Nat.le_of_ble_eq_true rfl)⟩ dX11_init_76 (fun m17 => ?_)
  refine i_putR (q := (a + 148)) fc_RX11_45 (by decide) hT trivial (fun _ => rfl) (fun b => ⟨rfl, rfl⟩) (by omega) dX11_init_79 ?_
  refine i_letM (fun m18 => ?_)
  refine x_aload_n dX11_init_82 rfl ?_
  refine i_new (n := a + 154) (c1 := 154) (s1 := 3909) nw_RX11_49 hz154 ⟨rfl, rfl⟩ ⟨(Nat.le_of_ble_eq_true rfl), (Nat.le_of_ble_eq_true rfl)⟩ dX11_init_83 ?_
  refine i_letM (fun m19 => ?_)
  refine x_dup dX11_init_86 rfl ?_
  refine i_call (a := a + 154) (As := []) (rest := [.ref (zad ω (a + 154)), .ref (zad ω a)]) (c1 := 157) (s1 := 3993) (c_Sol_init ω (a + 154) m19 hz154 hz155 hz156 hl156 hz157 hl157) mi_RX11_51 rfl (Nat.le_of_ble_eq_true rfl) (Nat.le_of_ble_eq_true rfl) (Nat.le_of_ble_eq_true rfl) ⟨rfl, rfl⟩ ⟨(Nat.le_of_ble_eq_true rfl), (Nat.le_of_ble_eq_true rfl)⟩ dX11_init_87 (fun m20 => ?_)
  refine i_putR (q := (a + 154)) fc_RX11_52 (by decide) hT trivial (fun _ => rfl) (fun b => ⟨rfl, rfl⟩) (by omega) dX11_init_90 ?_
  refine i_letM (fun m21 => ?_)
  refine x_aload_n dX11_init_93 rfl ?_
  refine i_new (n := a + 158) (c1 := 158) (s1 := 4001) nw_RX11_56 hz158 ⟨rfl, rfl⟩ ⟨(Nat.le_of_ble_eq_true rfl), (Nat.le_of_ble_eq_true rfl)⟩ dX11_init_94 ?_
  refine i_letM (fun m22 => ?_)
  refine x_dup dX11_init_97 rfl ?_
  refine i_call (a := a + 158) (As := []) (rest := [.ref (zad ω (a + 158)), .ref (zad ω a)]) (c1 := 184) (s1 := 4843) (c_Bel_init ω (a + 158) m22 hz158 hz159 hl159 hz160 hl160 hz161 hl161 hz162 hl162 hz163 hl163 hz164 hl164 hr164) mi_RX11_58 rfl (Nat.le_of_ble_eq_true rfl) (Nat.le_of_ble_eq_true rfl) (Nat.le_of_ble_eq_true rfl) ⟨rfl, rfl⟩ ⟨(Nat.le_of_ble_eq_true rfl), (Nat.le_of_ble_eq_true rfl)⟩ dX11_init_98 (fun m23 => ?_)
  refine i_putR (q := (a + 158)) fc_RX11_59 (by decide) hT trivial (fun _ => rfl) (fun b => ⟨rfl, rfl⟩) (by omega) dX11_init_101 ?_
  refine i_letM (fun m24 => ?_)
  refine x_aload_n dX11_init_104 rfl ?_
  refine x_iconst (v := 0) dX11_init_105 (by decide) ?_
  refine i_putI fc_RX11_63 (by decide) hT (fun h => nomatch h) dX11_init_106 ?_
  refine i_letM (fun m25 => ?_)
  exact x_vret rfl rfl ⟨(Nat.le_of_ble_eq_true rfl), (Nat.le_of_ble_eq_true rfl)⟩ dX11_init_109
