/-! what a program decides of the tables of fields -/
set_option maxRecDepth 100000 in
theorem lays_dec : ∀ c, c < 7 → ∀ k, k < fN c → u_lay (cN c) (fT c) k ∈ lw_W ∧ goodWord (u_lay (cN c) (fT c) k) = true := by decide +kernel
theorem lays_ok : ∀ c, c < 7 → ∀ w ∈ u_ws (cN c) (fT c) (fN c), w ∈ lw_W ∧ goodWord w = true := by
  intro c hc w hw
  obtain ⟨k, hk, rfl⟩ := List.mem_map.mp hw
  exact lays_dec c hc k (List.mem_range.mp hk)
set_option maxRecDepth 100000 in
theorem inst_ok : ∀ c, c < 7 → (Cond.instantiable (cN c) (fN c) ∈ lw_W ∧ goodWord (Cond.instantiable (cN c) (fN c)) = true) ∧ (Cond.initialized (cN c) ∈ lw_W ∧ goodWord (Cond.initialized (cN c)) = true) := by decide +kernel
theorem fF_ok : ∀ c, c < 7 → ∀ k, k < fN c → parseFieldDescriptor (fT c k).2.2.1 = some ((fF c).getD k .int) ∧ rtC (some ((fF c).getD k .int)) = (fC c).getD k 9 ∧ ((fT c k).2.2.2 = true → (fT c k).1 = cN c) := by decide +kernel
theorem nm_ok : ∀ c, c < 7 → ∀ a, a < fN c → ∀ b, b < fN c → a ≠ b → (fT c a).2.1 ≠ (fT c b).2.1 := by decide +kernel
theorem dF_ok : ∀ c, c < 7 → dF c = (fF c).map defaultValue ∧ (fF c).length = fN c := by decide +kernel
def mwords : List Cond := [.static Lib.Math.max.name, .code Lib.Math.max.name Lib.Math.max.code 2 (some .int), .static Lib.Math.min.name, .code Lib.Math.min.name Lib.Math.min.code 2 (some .int), .static Lib.Math.abs.name, .code Lib.Math.abs.name Lib.Math.abs.code 1 (some .int), .initialized "java/lang/Math", .native arraycopyName, .static arraycopyName, .initialized "java/lang/System", .instanceMethod Lib.objectInit, .code Lib.objectInit ⟨#[0xb1]⟩ 1 none, .arrayClass .int, .arrayClass .char, .arrayClass .byte, .arrayClass .long, .arrayClass .double, .sameMethod "SingleTrackLine$Command" "java/lang/Enum" "ordinal" "()I"]
set_option maxRecDepth 100000 in
theorem mw_ok : mwords.all (fun w => decide (w ∈ lw_W) && goodWord w) = true := by decide +kernel
theorem mw_in {w : Cond} (h : w ∈ mwords) : w ∈ lw_W ∧ goodWord w = true := by
  have h1 := List.all_eq_true.mp mw_ok w h
  rw [Bool.and_eq_true] at h1
  exact ⟨of_decide_eq_true h1.1, h1.2⟩
set_option maxRecDepth 100000 in
theorem ao_ok : Cond.arrayOver (.object "SingleTrackLine$Train") ∈ lw_W ∧ Cond.arrayOver (.object "SingleTrackLine$Line") ∈ lw_W ∧ Cond.declares ⟨"java/lang/Enum", "ordinal", "()I"⟩ ∈ lw_W := by decide +kernel
