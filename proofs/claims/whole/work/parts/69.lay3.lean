/-! lay -/
section LZ
variable {a0 b0 a1 b1 a2 b2 a3 b3 : Int32} {d0 d1 d2 d3 lanes lengths rc : Nat → Int32}
theorem lay_one {k : Nat} (hk : k < 4) {a b : Int32} {d : Nat → Int32} (hR : RSh k a b d lanes lengths rc) (y x : Int32) {P : Int32 → (Nat → Int32) → Int32 → (Nat → Int32) → Prop}
    (hs : ∀ r, P r d r rc) (hy : ∀ d' rc', RSh k a b d' lanes lengths rc' → (∀ j, (j < 40 * k ∨ 40 * k + 40 ≤ j) → rc' j = rc j) → P 1 d' 1 rc') :
    P_X3_faultAt (fun r => ((r = 0 → P_X3_put (fun d' => P_X8_lay (fun r2 rc' => P 1 d' r2 rc') lanes lengths rc (nI k) y x) a d y x) ∧ (¬ r = 0 → P_X8_lay (fun r2 rc' => P ((-10 : Int32) - r) d r2 rc') lanes lengths rc (nI k) y x))) a b a 1 y.toInt64 := by
  rcases hR with ⟨rfl, hl⟩ | ⟨l, q, h1, h2, rfl, h4, rfl, h6, h7⟩
  · exact flt_n (br_f o_ne (lay8_n hk hl (hs _)))
  · refine flt_y h1 h2 (fun i hi e => br_t rfl ?_) (fun hz => br_f (by decide) (lay8_2 hk h1 h2 h4 h6 hz (hs _)))
    subst e
    refine s_put h1 (by omega) (lay8_y hk h1 h2 h4 h6 hi (hy _ _ (Or.inr ⟨l, q, h1, h2, rfl, h4, rfl, h6, fun j hj => ?_⟩) (fun j hj => pk_un (by omega))))
    by_cases e : j = i
    · subst e; rw [pk_us, pk_us]
    · rw [pk_un e, pk_un (by omega)]; exact h7 j hj
end LZ
