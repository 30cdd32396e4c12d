/-! helps for the printed walks: choices in what is carried, fewer locals -/
theorem xif_p {R : Type} {X : R → Prop} {c : Prop} [Decidable c] {a b : R} (hc : c) (h : X (if c then a else b)) : X a := by rwa [if_pos hc] at h
theorem xif_n {R : Type} {X : R → Prop} {c : Prop} [Decidable c] {a b : R} (hc : ¬ c) (h : X (if c then a else b)) : X b := by rwa [if_neg hc] at h
theorem xif_P {c : Prop} [Decidable c] {a b : Prop} (hc : c) (h : if c then a else b) : a := by rwa [if_pos hc] at h
theorem xif_N {c : Prop} [Decidable c] {a b : Prop} (hc : ¬ c) (h : if c then a else b) : b := by rwa [if_neg hc] at h
def zle : List (Option Value) → List (Option Value) → Prop
  | [], _ => True
  | none :: l', [] => zle l' []
  | none :: l', _ :: l => zle l' l
  | some _ :: _, [] => False
  | some v :: l', x :: l => some v = x ∧ zle l' l
theorem zle_get : ∀ (l' l : List (Option Value)), zle l' l → ∀ j v, zg l' j = some v → zg l j = some v
  | [], _, _, j, v, h => by simp [zg] at h
  | none :: l', [], hz, 0, v, h => by simp [zg] at h
  | none :: l', [], hz, j + 1, v, h => by
    have := zle_get l' [] hz j v h
    simp [zg] at this
  | none :: l', x :: l, hz, 0, v, h => by simp [zg] at h
  | none :: l', x :: l, hz, j + 1, v, h => zle_get l' l hz j v h
  | some u :: l', [], hz, j, v, h => absurd hz id
  | some u :: l', x :: l, hz, 0, v, h => by
    simp only [zg] at h ⊢
    rw [← hz.1]; exact h
  | some u :: l', x :: l, hz, j + 1, v, h => zle_get l' l hz.2 j v h
theorem rX.cutz {G : zG} {E : rE} {d : Nat × Nat} {y : zM} {pc : Nat} {l l' : List (Option Value)} {st : List Value} {S : rS} {Q : Option Value → rS → Prop} (h : rX G E d y pc l' st S Q) (hz : zle l' l) : rX G E d y pc l st S Q := rX.cut h (zle_get l' l hz)
