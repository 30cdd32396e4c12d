section
/-! THE CLASS IS MADE: its objects and rows -/
section
variable {N g H T n k o c a b : Nat} {s s' s1 s2 S X : cS}
def upR (R : Nat → Option Nat) (j : Nat) (v : Option Nat) : Nat → Option Nat := fun i => if i = j then v else R i
def upI (I : Nat → Int32) (j : Nat) (v : Int32) : Nat → Int32 := fun i => if i = j then v else I i
def n0 : Nat → Option Nat := fun _ => none
def z0 : Nat → Int32 := fun _ => 0
/-- what stands at an address -/
def ob (s : cS) (a k n : Nat) (I : Nat → Int32) (R : Nat → Option Nat) (A : Nat → Int32) : Prop := cK s a = k ∧ cL s a = n ∧ (∀ j, cI s j a = I j) ∧ (∀ j, cR s j a = R j) ∧ (∀ j, cA s a j = A j) ∧ (∀ j, cJ s a j = 0) ∧ ∀ j, cP s a j = none
/-- there all is as it was -/
def sme (s s' : cS) (a : Nat) : Prop := cK s' a = cK s a ∧ cL s' a = cL s a ∧ (∀ j, cI s' j a = cI s j a) ∧ (∀ j, cR s' j a = cR s j a) ∧ cA s' a = cA s a ∧ cJ s' a = cJ s a ∧ cP s' a = cP s a
theorem sme.refl : sme s s a := ⟨rfl, rfl, fun _ => rfl, fun _ => rfl, rfl, rfl, rfl⟩
theorem sme.trans (h : sme s s1 a) (h' : sme s1 s2 a) : sme s s2 a := ⟨h'.1.trans h.1, h'.2.1.trans h.2.1, fun j => (h'.2.2.1 j).trans (h.2.2.1 j), fun j => (h'.2.2.2.1 j).trans (h.2.2.2.1 j), h'.2.2.2.2.1.trans h.2.2.2.2.1, h'.2.2.2.2.2.1.trans h.2.2.2.2.2.1, h'.2.2.2.2.2.2.trans h.2.2.2.2.2.2⟩
theorem ob.sme {I : Nat → Int32} {R : Nat → Option Nat} {A : Nat → Int32} (h : ob s a k n I R A) (f : sme s s1 a) : ob s1 a k n I R A := ⟨f.1.trans h.1, f.2.1.trans h.2.1, fun j => (f.2.2.1 j).trans (h.2.2.1 j), fun j => (f.2.2.2.1 j).trans (h.2.2.2.1 j), fun j => by rw [f.2.2.2.2.1]; exact h.2.2.2.2.1 j, fun j => by rw [f.2.2.2.2.2.1]; exact h.2.2.2.2.2.1 j, fun j => by rw [f.2.2.2.2.2.2]; exact h.2.2.2.2.2.2 j⟩
theorem up1_o {α : Type} {f : Nat → α} {v : α} (h : a ≠ c) : up1 f c v a = f a := by
  unfold up1
  rw [if_neg h]
theorem up1_s {α : Type} {f : Nat → α} {v : α} : up1 f c v c = v := by
  unfold up1
  rw [if_pos rfl]
theorem sme_new {kd ln : Nat} (h : a ≠ cn s) : sme s (csNew s kd ln) a := ⟨up1_o h, up1_o h, fun _ => up1_o h, fun _ => up1_o h, up1_o h, up1_o h, up1_o h⟩
theorem ob_new {kd ln : Nat} : ob (csNew s kd ln) (cn s) kd ln z0 n0 z0 := ⟨up1_s, up1_s, fun _ => up1_s, fun _ => up1_s, fun _ => by show up1 _ (cn s) (fun _ => 0) (cn s) _ = 0; rw [up1_s], fun _ => by show up1 _ (cn s) (fun _ => 0) (cn s) _ = 0; rw [up1_s], fun _ => by show up1 _ (cn s) (fun _ => none) (cn s) _ = none; rw [up1_s]⟩
theorem sme_R {j : Nat} {v : Option Nat} (h : b ≠ a) : sme s (csR s j a v) b := ⟨rfl, rfl, fun _ => rfl, fun _ => cR_ne _ _ (Or.inr h), rfl, rfl, rfl⟩
theorem sme_I {j : Nat} {v : Int32} (h : b ≠ a) : sme s (csI s j a v) b := ⟨rfl, rfl, fun _ => cI_other _ _ (Or.inr h), fun _ => rfl, rfl, rfl, rfl⟩
theorem sme_Ar {f : Nat → Int32} (h : b ≠ a) : sme s (csArow s a f) b := ⟨rfl, rfl, fun _ => rfl, fun _ => rfl, cA_other _ _ h, rfl, rfl⟩
theorem ob.R {I : Nat → Int32} {R : Nat → Option Nat} {A : Nat → Int32} {j : Nat} {v : Option Nat} (h : ob s a k n I R A) : ob (csR s j a v) a k n I (upR R j v) A := ⟨h.1, h.2.1, h.2.2.1, fun i => by
  unfold upR
  by_cases q : i = j
  · rw [if_pos q, q]
    exact cR_at _ _ _ _
  · rw [if_neg q, cR_ne _ _ (Or.inl q)]
    exact h.2.2.2.1 i, h.2.2.2.2⟩
theorem ob.I {I : Nat → Int32} {R : Nat → Option Nat} {A : Nat → Int32} {j : Nat} {v : Int32} (h : ob s a k n I R A) : ob (csI s j a v) a k n (upI I j v) R A := ⟨h.1, h.2.1, fun i => by
  unfold upI
  by_cases q : i = j
  · rw [if_pos q, q]
    exact cI_same _ _ _ _
  · rw [if_neg q, cI_other _ _ (Or.inl q)]
    exact h.2.2.1 i, h.2.2.2⟩
theorem ob.Ar {I : Nat → Int32} {R : Nat → Option Nat} {A B : Nat → Int32} (h : ob s a k n I R A) : ob (csArow s a B) a k n I R B := ⟨h.1, h.2.1, h.2.2.1, h.2.2.2.1, fun j => by rw [cA_same], h.2.2.2.2.2⟩
theorem ob.is {I : Nat → Int32} {R : Nat → Option Nat} {A : Nat → Int32} (h : ob s a k n I R A) : cis s (some a) k := ⟨rfl, h.1⟩
/-- a row is made, and a field leads there -/
theorem st_al {α : Type} {Q : α → Prop} {O : cS → Prop} {Fk : cS → α} {I : Nat → Int32} {R : Nat → Option Nat} {A : Nat → Int32} {kd j l : Nat} {L : Int32} (h : ob s o k n I R A) (hc : cn s = c) (ho : o < c) (hL : L = nI l) (hl : l ≤ 1000000) (go : ∀ s', ob s' o k n I (upR R j (some c)) A → ob s' c kd l z0 n0 z0 → cn s' = c + 1 → ck s' = ck s + l → (∀ b, b ≠ o → b ≠ c → sme s s' b) → wp (O s') (Fk s') Q) : wp ((¬ L < 0 ∧ L.toNatClampNeg ≤ 1000000) ∧ cis (csNew s kd L.toNatClampNeg) (some o) k ∧ O (csR (csNew s kd L.toNatClampNeg) j (za (some o)) (some (cn s)))) (Fk (csR (csNew s kd L.toNatClampNeg) j (za (some o)) (some (cn s)))) Q := by
  rw [hL, n_clamp (by omega), zsome, hc]
  have h1 : ob (csNew s kd l) o k n I R A := h.sme (sme_new (by omega))
  have h2 : ob (csNew s kd l) c kd l z0 n0 z0 := by
    have := ob_new (s := s) (kd := kd) (ln := l)
    rw [hc] at this
    exact this
  have g := go (csR (csNew s kd l) j o (some c)) h1.R (h2.sme (sme_R (by omega))) (by show cn s + 1 = c + 1; omega) rfl (fun b b1 b2 => (sme_new (by omega)).trans (sme_R b1))
  exact ⟨⟨⟨n_lt0 (by omega), hl⟩, h1.is, g.1⟩, g.2⟩
/-- the same, the field's owner set apart -/
theorem al_f {I : Nat → Int32} {R : Nat → Option Nat} {A : Nat → Int32} {kd j l : Nat} (h : ob s o k n I R A) (hc : cn s = c) (ho : o < c) : ob (csNew s kd l) o k n I R A ∧ ob (csNew s kd l) c kd l z0 n0 z0 ∧ cn (csNew s kd l) = c + 1 ∧ ck (csNew s kd l) = ck s + l ∧ ∀ b, b ≠ c → sme s (csNew s kd l) b := by
  refine ⟨h.sme (sme_new (by omega)), ?_, by show cn s + 1 = c + 1; omega, rfl, fun b hb => sme_new (by omega)⟩
  have := ob_new (s := s) (kd := kd) (ln := l)
  rw [hc] at this
  exact this
/-- a hasher -/
def haR (o : Nat) : Nat → Option Nat := upR (upR (upR (upR n0 0 (some (o + 1))) 1 (some (o + 2))) 2 (some (o + 3))) 3 (some (o + 4))
def haB (s : cS) (o : Nat) : Prop := ob s o 3 6 z0 (haR o) z0 ∧ ob s (o + 1) 20 1088 z0 n0 z0 ∧ ob s (o + 2) 21 64 z0 n0 z0 ∧ ob s (o + 3) 21 8 z0 n0 z0 ∧ ob s (o + 4) 20 2112 z0 n0 z0
theorem haB.sme (h : haB s o) (f : ∀ b, o ≤ b → b < o + 5 → sme s s1 b) : haB s1 o := ⟨h.1.sme (f _ (by omega) (by omega)), h.2.1.sme (f _ (by omega) (by omega)), h.2.2.1.sme (f _ (by omega) (by omega)), h.2.2.2.1.sme (f _ (by omega) (by omega)), h.2.2.2.2.sme (f _ (by omega) (by omega))⟩
theorem init_X2 (h : ob s o 3 6 z0 n0 z0) (hc : cn s = o + 1) : wp (o_X2_init N s o) (f_X2_init N s o) (fun s' => haB s' o ∧ cn s' = o + 5 ∧ ck s' = ck s + 3272 ∧ ∀ b, b < o ∨ o + 5 ≤ b → sme s s' b) := by
  show wp (O_X2_init_0 N (some o) s) (F_X2_init_0 N (some o) s) _
  unfold O_X2_init_0 F_X2_init_0
  refine wp_and rfl (st_al (O := O_X2_init_13 N (some o)) (Fk := F_X2_init_13 N (some o)) (l := 1088) h hc (by omega) rfl (by omega) (fun s1 a1 b1 c1 d1 e1 => ?_))
  unfold O_X2_init_13 F_X2_init_13
  refine st_al (O := O_X2_init_21 N (some o)) (Fk := F_X2_init_21 N (some o)) (l := 64) a1 c1 (by omega) rfl (by omega) (fun s2 a2 b2 c2 d2 e2 => ?_)
  unfold O_X2_init_21 F_X2_init_21
  refine st_al (O := O_X2_init_29 N (some o)) (Fk := F_X2_init_29 N (some o)) (l := 8) a2 c2 (by omega) rfl (by omega) (fun s3 a3 b3 c3 d3 e3 => ?_)
  unfold O_X2_init_29 F_X2_init_29
  refine st_al (O := fun _ => True) (Fk := fun s => s) (l := 2112) a3 c3 (by omega) rfl (by omega) (fun s4 a4 b4 c4 d4 e4 => wp_fin trivial ⟨⟨a4, ?_, ?_, ?_, b4⟩, c4, by omega, fun b hb => ?_⟩)
  · exact ((b1.sme (e2 _ (by omega) (by omega))).sme (e3 _ (by omega) (by omega))).sme (e4 _ (by omega) (by omega))
  · exact (b2.sme (e3 _ (by omega) (by omega))).sme (e4 _ (by omega) (by omega))
  · exact b3.sme (e4 _ (by omega) (by omega))
  · exact (((e1 b (by omega) (by omega)).trans (e2 b (by omega) (by omega))).trans (e3 b (by omega) (by omega))).trans (e4 b (by omega) (by omega))
/-- a log -/
def loR (o : Nat) : Nat → Option Nat := upR (upR (upR (upR n0 0 (some (o + 1))) 1 (some (o + 2))) 2 (some (o + 3))) 3 (some (o + 4))
def loB (s : cS) (o : Nat) : Prop := ob s o 4 10 z0 (loR o) z0 ∧ ob s (o + 1) 26 284 z0 n0 z0 ∧ ob s (o + 2) 23 284 z0 n0 z0 ∧ ob s (o + 3) 20 1024 z0 n0 z0 ∧ ob s (o + 4) 21 41 z0 n0 z0
theorem loB.sme (h : loB s o) (f : ∀ b, o ≤ b → b < o + 5 → sme s s1 b) : loB s1 o := ⟨h.1.sme (f _ (by omega) (by omega)), h.2.1.sme (f _ (by omega) (by omega)), h.2.2.1.sme (f _ (by omega) (by omega)), h.2.2.2.1.sme (f _ (by omega) (by omega)), h.2.2.2.2.sme (f _ (by omega) (by omega))⟩
theorem init_X4 (h : ob s o 4 10 z0 n0 z0) (hc : cn s = o + 1) : wp (o_X4_init N s o) (f_X4_init N s o) (fun s' => loB s' o ∧ cn s' = o + 5 ∧ ck s' = ck s + 1633 ∧ ∀ b, b < o ∨ o + 5 ≤ b → sme s s' b) := by
  show wp (O_X4_init_0 N (some o) s) (F_X4_init_0 N (some o) s) _
  unfold O_X4_init_0 F_X4_init_0
  refine wp_and rfl (st_al (O := O_X4_init_14 N (some o)) (Fk := F_X4_init_14 N (some o)) (l := 284) h hc (by omega) rfl (by omega) (fun s1 a1 b1 c1 d1 e1 => ?_))
  unfold O_X4_init_14 F_X4_init_14
  refine st_al (O := O_X4_init_23 N (some o)) (Fk := F_X4_init_23 N (some o)) (l := 284) a1 c1 (by omega) rfl (by omega) (fun s2 a2 b2 c2 d2 e2 => ?_)
  unfold O_X4_init_23 F_X4_init_23
  refine st_al (O := O_X4_init_32 N (some o)) (Fk := F_X4_init_32 N (some o)) (l := 1024) a2 c2 (by omega) rfl (by omega) (fun s3 a3 b3 c3 d3 e3 => ?_)
  unfold O_X4_init_32 F_X4_init_32
  refine st_al (O := fun _ => True) (Fk := fun s => s) (l := 41) a3 c3 (by omega) rfl (by omega) (fun s4 a4 b4 c4 d4 e4 => wp_fin trivial ⟨⟨a4, ?_, ?_, ?_, b4⟩, c4, by omega, fun b hb => ?_⟩)
  · exact ((b1.sme (e2 _ (by omega) (by omega))).sme (e3 _ (by omega) (by omega))).sme (e4 _ (by omega) (by omega))
  · exact (b2.sme (e3 _ (by omega) (by omega))).sme (e4 _ (by omega) (by omega))
  · exact b3.sme (e4 _ (by omega) (by omega))
  · exact (((e1 b (by omega) (by omega)).trans (e2 b (by omega) (by omega))).trans (e3 b (by omega) (by omega))).trans (e4 b (by omega) (by omega))
/-- a row is filled -/
theorem fill_r {r : Nat} {v : Int32} {l : Nat} (hN : l < N) (h : ob s r 21 l z0 n0 z0) (hl : l < 100000) : wp (o_J7_fill_53178 N s (some r) v) (f_J7_fill_53178 N s (some r) v) (fun s' => ob s' r 21 l z0 n0 (fun j => if j < l then v else 0) ∧ cn s' = cn s ∧ ck s' = ck s ∧ ∀ b, b ≠ r → sme s s' b) := by
  show wp (O_J7_fill_53178_0 N (some r) v s) (F_J7_fill_53178_0 N (some r) v s) _
  unfold O_J7_fill_53178_0 F_J7_fill_53178_0
  rw [zsome, h.2.1]
  refine wp_and h.is (wp_seq (Q := fun Z : Nat × cS => ob Z.2 r 21 l z0 n0 (fun j => if j < l then v else 0) ∧ cn Z.2 = cn s ∧ ck Z.2 = ck s ∧ ∀ b, b ≠ r → sme s Z.2 b) ?_ (fun Z hZ => wp_fin trivial hZ))
  refine wp_loop (K := l) (fun j (X : cS) => ob X r 21 l z0 n0 (fun i => if i < j then v else 0) ∧ cn X = cn s ∧ ck X = ck s ∧ ∀ b, b ≠ r → sme s X b) (fun m j X => OL_J7_fill_53178_5 N m (some r) v (nI j) (nI l) X) (fun m j X => L_J7_fill_53178_5 N m (some r) v (nI j) (nI l) X) (fun m j X hj hI ih => ?_) 0 N s (by omega) (by omega) ⟨⟨h.1, h.2.1, h.2.2.1, h.2.2.2.1, fun i => (h.2.2.2.2.1 i).trans (if_neg (by omega)).symm, h.2.2.2.2.2⟩, rfl, rfl, fun _ _ => sme.refl⟩
  obtain ⟨h1, h2, h3, h4⟩ := hI
  unfold OL_J7_fill_53178_5 L_J7_fill_53178_5 OB_J7_fill_53178_5 B_J7_fill_53178_5
  by_cases c : j = l
  · subst c
    exact wp_pos (by rw [n_le' (by omega) (by omega)]; omega) (wp_fin trivial ⟨h1, h2, h3, h4⟩)
  rw [zsome, n_clamp (by omega), n_add, h1.2.1]
  refine wp_neg (by rw [n_le' (by omega) (by omega)]; omega) (wp_and ⟨h1.is, ((n_in (by omega)).2 (by omega))⟩ (ih _ ⟨⟨h1.1, h1.2.1, h1.2.2.1, h1.2.2.2.1, fun i => ?_, h1.2.2.2.2.2⟩, h2, h3, fun b hb => (h4 b hb).trans (sme_Ar hb)⟩ (by omega)))
  rw [cA_at]
  show _ = if i < j + 1 then v else 0
  by_cases q : i = j
  · rw [if_pos q, if_pos (by omega)]
  · rw [if_neg q, h1.2.2.2.2.1 i]
    show (if i < j then v else 0) = _
    by_cases q2 : i < j
    · rw [if_pos q2, if_pos (by omega)]
    · rw [if_neg q2, if_neg (by omega)]
/-- a book -/
def boR (o : Nat) : Nat → Option Nat := upR (upR (upR (upR n0 0 (some (o + 1))) 1 (some (o + 2))) 3 (some (o + 3))) 4 (some (o + 4))
def boB (s : cS) (o : Nat) : Prop := ob s o 1 6 (upI z0 5 (nI 1)) (boR o) z0 ∧ ob s (o + 1) 21 16 z0 n0 (fun j => if j < 16 then nI 1000 else 0) ∧ ob s (o + 2) 21 16 z0 n0 z0 ∧ ob s (o + 3) 20 32 z0 n0 z0 ∧ ob s (o + 4) 20 6 z0 n0 z0
theorem boB.sme (h : boB s o) (f : ∀ b, o ≤ b → b < o + 5 → sme s s1 b) : boB s1 o := ⟨h.1.sme (f _ (by omega) (by omega)), h.2.1.sme (f _ (by omega) (by omega)), h.2.2.1.sme (f _ (by omega) (by omega)), h.2.2.2.1.sme (f _ (by omega) (by omega)), h.2.2.2.2.sme (f _ (by omega) (by omega))⟩
theorem init_X0 (hN : 100 ≤ N) (h : ob s o 1 6 z0 n0 z0) (hc : cn s = o + 1) : wp (o_X0_init N s o) (f_X0_init N s o) (fun s' => boB s' o ∧ cn s' = o + 5 ∧ ck s' = ck s + 70 ∧ ∀ b, b < o ∨ o + 5 ≤ b → sme s s' b) := by
  show wp (O_X0_init_0 N (some o) s) (F_X0_init_0 N (some o) s) _
  unfold O_X0_init_0 F_X0_init_0
  refine wp_and rfl (st_al (O := O_X0_init_12 N (some o)) (Fk := F_X0_init_12 N (some o)) (l := 16) h hc (by omega) rfl (by omega) (fun s1 a1 b1 c1 d1 e1 => ?_))
  unfold O_X0_init_12 F_X0_init_12
  refine st_al (O := O_X0_init_20 N (some o)) (Fk := F_X0_init_20 N (some o)) (l := 16) a1 c1 (by omega) rfl (by omega) (fun s2 a2 b2 c2 d2 e2 => ?_)
  unfold O_X0_init_20 F_X0_init_20
  refine st_al (O := O_X0_init_28 N (some o)) (Fk := F_X0_init_28 N (some o)) (l := 32) a2 c2 (by omega) rfl (by omega) (fun s3 a3 b3 c3 d3 e3 => ?_)
  unfold O_X0_init_28 F_X0_init_28
  refine st_al (O := O_X0_init_36 N (some o)) (Fk := F_X0_init_36 N (some o)) (l := 6) a3 c3 (by omega) rfl (by omega) (fun s4 a4 b4 c4 d4 e4 => ?_)
  unfold O_X0_init_36 F_X0_init_36
  rw [zsome]
  have a5 : ob (csI s4 5 o (nI 1)) o 1 6 (upI z0 5 (nI 1)) (boR o) z0 := a4.I
  have r0 : cR (csI s4 5 o (nI 1)) 0 o = some (o + 1) := a5.2.2.2.1 0
  rw [r0]
  have f5 : ∀ b, b ≠ o → sme s4 (csI s4 5 o (nI 1)) b := fun b hb => sme_I hb
  have g1 := (((b1.sme (e2 _ (by omega) (by omega))).sme (e3 _ (by omega) (by omega))).sme (e4 _ (by omega) (by omega))).sme (f5 (o + 1) (by omega))
  have c5 : cn (csI s4 5 o (nI 1)) = o + 5 := c4
  have d5 : ck (csI s4 5 o (nI 1)) = ck s4 := rfl
  refine wp_and a4.is (wp_and a5.is (wp_call (fill_r (N := N) (v := nI 1000) (by omega) g1 (by decide)) (fun q => wp_fin trivial ?_)))
  obtain ⟨q1, q2, q3, q4⟩ := q
  refine ⟨⟨a5.sme (q4 _ (by omega)), q1, ?_, ?_, ?_⟩, by omega, by omega, fun b hb => ?_⟩
  · exact (((b2.sme (e3 _ (by omega) (by omega))).sme (e4 _ (by omega) (by omega))).sme (f5 _ (by omega))).sme (q4 _ (by omega))
  · exact ((b3.sme (e4 _ (by omega) (by omega))).sme (f5 _ (by omega))).sme (q4 _ (by omega))
  · exact (b4.sme (f5 _ (by omega))).sme (q4 _ (by omega))
  · exact (((((e1 b (by omega) (by omega)).trans (e2 b (by omega) (by omega))).trans (e3 b (by omega) (by omega))).trans (e4 b (by omega) (by omega))).trans (f5 b (by omega))).trans (q4 b (by omega))
/-- a form -/
theorem init_X1 {x1 : Option Nat} {x2 : Int32} (h : ob s o 2 3 z0 n0 z0) (hc : cn s = o + 1) : wp (o_X1_init N s o x1 x2) (f_X1_init N s o x1 x2) (fun s' => ob s' o 2 3 (upI z0 1 x2) (upR (upR n0 2 (some (o + 1))) 0 x1) z0 ∧ ob s' (o + 1) 20 32 z0 n0 z0 ∧ cn s' = o + 2 ∧ ck s' = ck s + 32 ∧ ∀ b, b < o ∨ o + 2 ≤ b → sme s s' b) := by
  show wp (O_X1_init_0 N (some o) x1 x2 s) (F_X1_init_0 N (some o) x1 x2 s) _
  unfold O_X1_init_0 F_X1_init_0
  refine wp_and rfl (st_al (O := O_X1_init_12 N (some o) x1 x2) (Fk := F_X1_init_12 N (some o) x1 x2) (l := 32) h hc (by omega) rfl (by omega) (fun s1 a1 b1 c1 d1 e1 => ?_))
  unfold O_X1_init_12 F_X1_init_12
  rw [zsome]
  have a2 : ob (csR s1 0 o x1) o 2 3 z0 (upR (upR n0 2 (some (o + 1))) 0 x1) z0 := a1.R
  exact wp_and a1.is (wp_and a2.is (wp_fin trivial ⟨a2.I, (b1.sme (sme_R (by omega))).sme (sme_I (by omega)), c1, d1, fun b hb => ((e1 b (by omega) (by omega)).trans (sme_R (by omega))).trans (sme_I (by omega))⟩))
/-- a sky -/
def skR (o : Nat) : Nat → Option Nat := upR (upR (upR (upR (upR (upR n0 0 (some (o + 1))) 1 (some (o + 2))) 2 (some (o + 3))) 3 (some (o + 4))) 4 (some (o + 5))) 5 (some (o + 6))
def skB (s : cS) (o : Nat) : Prop := ob s o 8 13 z0 (skR o) z0 ∧ ob s (o + 1) 21 1024 z0 n0 z0 ∧ ob s (o + 2) 21 1000 z0 n0 (fun j => if j < 1000 then nI j else 0) ∧ ob s (o + 3) 21 1000 z0 n0 z0 ∧ ob s (o + 4) 21 1000 z0 n0 z0 ∧ ob s (o + 5) 21 1000 z0 n0 z0 ∧ ob s (o + 6) 24 1000 z0 n0 z0
theorem skB.sme (h : skB s o) (f : ∀ b, o ≤ b → b < o + 7 → sme s s1 b) : skB s1 o := ⟨h.1.sme (f _ (by omega) (by omega)), h.2.1.sme (f _ (by omega) (by omega)), h.2.2.1.sme (f _ (by omega) (by omega)), h.2.2.2.1.sme (f _ (by omega) (by omega)), h.2.2.2.2.1.sme (f _ (by omega) (by omega)), h.2.2.2.2.2.1.sme (f _ (by omega) (by omega)), h.2.2.2.2.2.2.sme (f _ (by omega) (by omega))⟩
theorem init_X9 (hN : 2000 ≤ N) (h : ob s o 8 13 z0 n0 z0) (hc : cn s = o + 1) : wp (o_X9_init N s o) (f_X9_init N s o) (fun s' => skB s' o ∧ cn s' = o + 7 ∧ ck s' = ck s + 6024 ∧ ∀ b, b < o ∨ o + 7 ≤ b → sme s s' b) := by
  show wp (O_X9_init_0 N (some o) s) (F_X9_init_0 N (some o) s) _
  unfold O_X9_init_0 F_X9_init_0
  refine wp_and rfl (st_al (O := O_X9_init_13 N (some o)) (Fk := F_X9_init_13 N (some o)) (l := 1024) h hc (by omega) rfl (by omega) (fun s1 a1 b1 c1 d1 e1 => ?_))
  unfold O_X9_init_13 F_X9_init_13
  refine st_al (O := O_X9_init_22 N (some o)) (Fk := F_X9_init_22 N (some o)) (l := 1000) a1 c1 (by omega) rfl (by omega) (fun s2 a2 b2 c2 d2 e2 => ?_)
  unfold O_X9_init_22 F_X9_init_22
  refine st_al (O := O_X9_init_31 N (some o)) (Fk := F_X9_init_31 N (some o)) (l := 1000) a2 c2 (by omega) rfl (by omega) (fun s3 a3 b3 c3 d3 e3 => ?_)
  unfold O_X9_init_31 F_X9_init_31
  refine st_al (O := O_X9_init_40 N (some o)) (Fk := F_X9_init_40 N (some o)) (l := 1000) a3 c3 (by omega) rfl (by omega) (fun s4 a4 b4 c4 d4 e4 => ?_)
  unfold O_X9_init_40 F_X9_init_40
  refine st_al (O := O_X9_init_49 N (some o)) (Fk := F_X9_init_49 N (some o)) (l := 1000) a4 c4 (by omega) rfl (by omega) (fun s5 a5 b5 c5 d5 e5 => ?_)
  unfold O_X9_init_49 F_X9_init_49
  refine st_al (O := O_X9_init_59 N (some o)) (Fk := F_X9_init_59 N (some o)) (l := 1000) a5 c5 (by omega) rfl (by omega) (fun s6 a6 b6 c6 d6 e6 => ?_)
  have b1 := ((((b1.sme (e2 _ (by omega) (by omega))).sme (e3 _ (by omega) (by omega))).sme (e4 _ (by omega) (by omega))).sme (e5 _ (by omega) (by omega))).sme (e6 _ (by omega) (by omega))
  have b2 := (((b2.sme (e3 _ (by omega) (by omega))).sme (e4 _ (by omega) (by omega))).sme (e5 _ (by omega) (by omega))).sme (e6 _ (by omega) (by omega))
  have b3 := ((b3.sme (e4 _ (by omega) (by omega))).sme (e5 _ (by omega) (by omega))).sme (e6 _ (by omega) (by omega))
  have b4 := (b4.sme (e5 _ (by omega) (by omega))).sme (e6 _ (by omega) (by omega))
  have b5 := b5.sme (e6 _ (by omega) (by omega))
  have fr : ∀ b, b < o ∨ o + 7 ≤ b → sme s s6 b := fun b hb => ((((((e1 b (by omega) (by omega)).trans (e2 b (by omega) (by omega))).trans (e3 b (by omega) (by omega))).trans (e4 b (by omega) (by omega))).trans (e5 b (by omega) (by omega))).trans (e6 b (by omega) (by omega)))
  have dd : ck s6 = ck s + 6024 := by omega
  unfold O_X9_init_59 F_X9_init_59
  refine wp_seq (Q := fun Z : Nat × cS => ob Z.2 (o + 2) 21 1000 z0 n0 (fun j => if j < 1000 then nI j else 0) ∧ cn Z.2 = cn s6 ∧ ck Z.2 = ck s6 ∧ ∀ b, b ≠ o + 2 → sme s6 Z.2 b) ?_ (fun Z hZ => ?_)
  rotate_left
  · obtain ⟨q1, q2, q3, q4⟩ := hZ
    unfold OA_X9_init_61 A_X9_init_61 O_X9_init_81 F_X9_init_81
    exact wp_fin trivial ⟨⟨a6.sme (q4 _ (by omega)), b1.sme (q4 _ (by omega)), q1, b3.sme (q4 _ (by omega)), b4.sme (q4 _ (by omega)), b5.sme (q4 _ (by omega)), b6.sme (q4 _ (by omega))⟩, by omega, by omega, fun b hb => (fr b hb).trans (q4 b (by omega))⟩
  refine wp_loop (K := 1000) (fun j (X : cS) => ob X (o + 2) 21 1000 z0 n0 (fun i => if i < j then nI i else 0) ∧ cn X = cn s6 ∧ ck X = ck s6 ∧ ∀ b, b ≠ o + 2 → sme s6 X b) (fun m j X => OL_X9_init_61 N m (some o) (nI j) X) (fun m j X => L_X9_init_61 N m (some o) (nI j) X) (fun m j X hj hI ih => ?_) 0 N s6 (by omega) (by omega) ⟨⟨b2.1, b2.2.1, b2.2.2.1, b2.2.2.2.1, fun i => (b2.2.2.2.2.1 i).trans (if_neg (by omega)).symm, b2.2.2.2.2.2⟩, rfl, rfl, fun _ _ => sme.refl⟩
  obtain ⟨h1, h2, h3, h4⟩ := hI
  have aX := a6.sme (h4 o (by omega))
  have r1 : cR X 1 o = some (o + 2) := aX.2.2.2.1 1
  unfold OL_X9_init_61 L_X9_init_61 OB_X9_init_61 B_X9_init_61
  by_cases c : j = 1000
  · subst c
    exact wp_pos (by rw [n_le' (by omega) (by omega)]; omega) (wp_fin trivial ⟨h1, h2, h3, h4⟩)
  rw [zsome, r1, zsome, n_clamp (by omega), n_add, h1.2.1]
  refine wp_neg (by rw [n_le' (by omega) (by omega)]; omega) (wp_and aX.is (wp_and ⟨h1.is, ((n_in (by omega)).2 (by omega))⟩ (ih _ ⟨⟨h1.1, h1.2.1, h1.2.2.1, h1.2.2.2.1, fun i => ?_, h1.2.2.2.2.2⟩, h2, h3, fun b hb => (h4 b hb).trans (sme_Ar hb)⟩ (by omega))))
  rw [cA_at]
  show _ = if i < j + 1 then nI i else 0
  by_cases q : i = j
  · rw [if_pos q, if_pos (by omega), q]
  · rw [if_neg q, h1.2.2.2.2.1 i]
    show (if i < j then nI i else 0) = _
    by_cases q2 : i < j
    · rw [if_pos q2, if_pos (by omega)]
    · rw [if_neg q2, if_neg (by omega)]
end
end
