section
/-! WHAT A NOTE DOES NOT WRITE: whether a book is stale -/
def I5 (s s' : cS) : Prop := cn s ≤ cn s' ∧ ∀ x, x < cn s → cI s' 5 x = cI s 5 x
section
variable {N g H T : Nat} {s s1 s2 S : cS}
theorem I5.refl : I5 s s := ⟨Nat.le_refl _, fun _ _ => rfl⟩
theorem I5.trans (h : I5 s s1) (h' : I5 s1 s2) : I5 s s2 := ⟨Nat.le_trans h.1 h'.1, fun x hx => (h'.2 x (Nat.lt_of_lt_of_le hx h.1)).trans (h.2 x hx)⟩
theorem I5_I {k a : Nat} {v : Int32} (hk : k ≠ 5) : I5 s (csI s k a v) := ⟨Nat.le_refl _, fun x _ => cI_other _ _ (Or.inl (fun q => hk q.symm))⟩
theorem I5_A {a : Nat} {f : Nat → Int32} : I5 s (csArow s a f) := ⟨Nat.le_refl _, fun _ _ => rfl⟩
theorem I5_a {a i : Nat} {v : Int32} : I5 s (csA s a i v) := ⟨Nat.le_refl _, fun _ _ => rfl⟩
theorem I5_P {a i : Nat} {v : Option Nat} : I5 s (csP s a i v) := ⟨Nat.le_refl _, fun _ _ => rfl⟩
theorem I5_two {r : Option Nat} {x y : Int32} : I5 s (k_X11_putTwo N g H T s r x y) := by
  show I5 s (KF_X11_putTwo_0 N g H T r x y s)
  unfold KF_X11_putTwo_0 KF_X11_putTwo_27
  split
  · exact I5.refl
  · split
    · exact I5.refl
    · exact I5_a.trans I5_a
theorem I5_open {a : Nat} {x y z : Int32} : I5 s (k_X4_open N g H T s a x y z) := by
  show I5 s (KF_X4_open_0 N g H T a x y z s)
  unfold KF_X4_open_0 KF_X4_open_17
  exact ((I5_a.trans I5_two).trans I5_a).trans (I5_I (by decide))
theorem I5_add {a : Nat} {r : Option Nat} {x y : Int32} : I5 s (k_X4_add N g H T s a r x y) := by
  show I5 s (KF_X4_add_0 N g H T a r x y s)
  unfold KF_X4_add_0 KF_X4_add_47 KF_X4_add_59
  split
  · exact I5.refl
  split
  · exact I5.refl
  split
  · exact I5.refl
  split
  · exact I5.refl
  · exact I5_A.trans (I5_I (by decide))
theorem I5_new {k l : Nat} : I5 s (csNew s k l) := ⟨Nat.le_succ _, fun x hx => by
  show up1 (s.2.1 5) (cn s) 0 x = s.2.1 5 x
  unfold up1
  rw [if_neg (by omega)]⟩
section
variable {rec : Nat → Int32 → Int32 → Int32 → cS → Nat × Nat × Int32 × cS}
theorem I5_174 (hr : ∀ x0 x2 x3 x4 S, I5 S (rec x0 x2 x3 x4 S).2.2.2) {x0 : Nat} {x2 x3 x4 x6 s1' s2' : Int32} {s0 : Option Nat} : I5 S (KF_X4_write_174 N g H T rec x0 x2 x3 x4 x6 s0 s1' s2' S).2.2.2 := by
  unfold KF_X4_write_174 KF_X4_write_190
  split
  · exact (I5_a.trans (I5_I (by decide))).trans (hr _ _ _ _ _)
  · exact I5_a.trans (hr _ _ _ _ _)
theorem I5_155 (hr : ∀ x0 x2 x3 x4 S, I5 S (rec x0 x2 x3 x4 S).2.2.2) {x0 : Nat} {x2 x3 x4 x6 s1' s3 s4 : Int32} {s0 s2' : Option Nat} : I5 S (KF_X4_write_155 N g H T rec x0 x2 x3 x4 x6 s0 s1' s2' s3 s4 S).2.2.2 := by
  unfold KF_X4_write_155 KF_X4_write_158
  split
  · exact I5_A.trans (I5_174 hr)
  · exact I5_A.trans (I5_174 hr)
theorem I5_128 (hr : ∀ x0 x2 x3 x4 S, I5 S (rec x0 x2 x3 x4 S).2.2.2) {x0 : Nat} {x2 x3 x4 x5 x6 : Int32} : I5 S (KF_X4_write_128 N g H T rec x0 x2 x3 x4 x5 x6 S).2.2.2 := by
  unfold KF_X4_write_128
  split
  · exact I5_155 hr
  · exact I5_155 hr
theorem I5_104 (hr : ∀ x0 x2 x3 x4 S, I5 S (rec x0 x2 x3 x4 S).2.2.2) {x0 : Nat} {x2 x3 x4 x5 x6 : Int32} : I5 S (KF_X4_write_104 N g H T rec x0 x2 x3 x4 x5 x6 S).2.2.2 := by
  unfold KF_X4_write_104 KF_X4_write_127
  split
  · exact (I5_new.trans I5_P).trans (I5_128 hr)
  · exact I5_128 hr
theorem I5_48b (hr : ∀ x0 x2 x3 x4 S, I5 S (rec x0 x2 x3 x4 S).2.2.2) {x0 : Nat} {x2 x3 x4 : Int32} : I5 S (KB_X4_write_48 N g H T rec x0 x2 x3 x4 S).2.2.2 := by
  unfold KB_X4_write_48 KF_X4_write_103
  split
  · exact I5.refl
  split
  · exact I5.refl
  split
  · exact I5.refl
  split
  · exact I5_104 hr
  split
  · exact I5_104 hr
  · exact I5_104 hr
end
theorem I5_48 : ∀ m x0 x2 x3 x4 (S : cS), I5 S (KL_X4_write_48 N g H T m x0 x2 x3 x4 S).2.2.2
  | 0, _, _, _, _, _ => I5.refl
  | m + 1, _, _, _, _, _ => I5_48b (fun x0 x2 x3 x4 S => I5_48 m x0 x2 x3 x4 S)
theorem I5_write {a : Nat} {x : Int32} : I5 s (k_X4_write N g H T s a x).2 := by
  have e43 : ∀ (x2 : Int32) (S : cS), I5 S (KF_X4_write_31 N g H T a x x2 S).2 := fun x2 S => by
    unfold KF_X4_write_31 KF_X4_write_43 KA_X4_write_48
    have h1 : I5 S (KL_X4_write_48 N g H T N a x2 (nI 0) x (k_X11_putTwo N g H T S (some (a + 3)) (nI 4) (cI S 4 a))).2.2.2 := I5_two.trans (I5_48 N a x2 (nI 0) x _)
    refine h1.trans ?_
    clear h1
    generalize KL_X4_write_48 N g H T N a x2 (nI 0) x (k_X11_putTwo N g H T S (some (a + 3)) (nI 4) (cI S 4 a)) = z
    unfold KF_X4_write_202 KF_X4_write_216 KF_X4_write_225
    split
    · exact I5_I (by decide)
    · exact I5.refl
  have e13 : ∀ (y : Int32), I5 s (KF_X4_write_13 N g H T a x y s).2 := fun y => by
    unfold KF_X4_write_13
    split
    · exact e43 _ _
    · exact (I5_I (by decide)).trans (e43 _ _)
  show I5 s (KF_X4_write_0 N g H T a x s).2
  unfold KF_X4_write_0
  split
  · exact e13 _
  · exact e13 _
theorem I5_jot {a : Nat} {x1 x2 x3 x5 : Int32} {x4 : Option Nat} : I5 s (k_X4_jot N g H T s a x1 x2 x3 x4 x5).2 := by
  have e52 : ∀ S : cS, I5 S (KF_X4_jot_52 N g H T a S).2 := fun S => by
    unfold KF_X4_jot_52 KF_X4_jot_65
    split
    · exact I5_write
    · exact I5_write.trans (I5_I (by decide))
  show I5 s (KF_X4_jot_0 N g H T a x1 x2 x3 x4 x5 s).2
  unfold KF_X4_jot_0 KF_X4_jot_10 KF_X4_jot_31
  split
  · exact ((I5_open.trans I5_a).trans (I5_I (by decide))).trans (e52 _)
  · exact (((I5_open.trans I5_a).trans (I5_I (by decide))).trans I5_add).trans (e52 _)
end
end
