section
/-! THE REFERENCE IS MADE -/
/-- the world before a node has begun -/
noncomputable def w00 : Wd := (fun _ k => if k = 0 ∨ k = 1 then 1 else if k = 4 ∨ k = 5 ∨ (9 ≤ k ∧ k ≤ 11) then -1 else if 32 ≤ k ∧ k < 48 then 1000 else 0, fun _ f i => if f = 9 ∧ i = 0 then some z32 else none, fun _ => [], fun _ _ _ => 0, ([], 0, 0), 0, [])
def k00 : Bk := fun i => if i < 16 then 1000 else 0
theorem k00_ok : bkOK k00 := by
  refine ⟨fun a ha => ?_, ?_, fun a ha => ?_, fun a ha => ?_⟩
  · unfold k00
    rw [if_pos ha]
    decide
  · rfl
  · unfold k00
    rw [if_neg (by omega)]
    decide
  · unfold k00
    rw [if_neg (by omega)]
    exact Or.inl rfl
theorem w00_k (n : Nat) : ∀ i, bkN (wN w00) n i = k00 i ∨ 48 ≤ i := fun i => by
  by_cases c : 48 ≤ i
  · exact Or.inr c
  left
  show (if 32 + i = 0 ∨ 32 + i = 1 then (1 : Int) else if 32 + i = 4 ∨ 32 + i = 5 ∨ (9 ≤ 32 + i ∧ 32 + i ≤ 11) then -1 else if 32 ≤ 32 + i ∧ 32 + i < 48 then 1000 else 0) = if i < 16 then 1000 else 0
  rw [if_neg (by omega), if_neg (by omega)]
  by_cases d : i < 16
  · rw [if_pos (by omega), if_pos d]
  · rw [if_neg (by omega), if_neg d]
theorem w00_w (n s : Nat) : wN w00 n (100 + s) = 0 := by
  show (if 100 + s = 0 ∨ 100 + s = 1 then (1 : Int) else if 100 + s = 4 ∨ 100 + s = 5 ∨ (9 ≤ 100 + s ∧ 100 + s ≤ 11) then -1 else if 32 ≤ 100 + s ∧ 100 + s < 48 then 1000 else 0) = 0
  rw [if_neg (by omega), if_neg (by omega), if_neg (by omega)]
theorem z32_ok : z32.length = 32 ∧ isB z32 := ⟨mkB_len _ _, isB_mk fun _ _ => by decide⟩
theorem w00_y {n f i : Nat} (h : f ≠ 9) : wY w00 n f i = none := by
  show (if f = 9 ∧ i = 0 then some z32 else none) = none
  rw [if_neg (fun z => h z.1)]
theorem w00_z {n : Nat} : wY w00 n 9 0 = some z32 := rfl
theorem w00_b (n : Nat) : bkOK (bkN (wN w00) n) := by
  have e := w00_k n
  have g : ∀ i, i < 48 → bkN (wN w00) n i = k00 i := fun i hi => (e i).resolve_right (by omega)
  obtain ⟨a, b, c, d⟩ := k00_ok
  refine ⟨fun i hi => by rw [g i (by omega)]; exact a i hi, ?_, fun i hi => by rw [g (16 + i) (by omega)]; exact c i hi, fun i hi => by rw [g (32 + i) (by omega)]; exact d i hi⟩
  rw [← b]
  have : ∀ m, m ≤ 16 → smB (bkN (wN w00) n) m = smB k00 m := fun m => by
    induction m with
    | zero => intro _; rfl
    | succ m ih =>
      intro hm
      show smB (bkN (wN w00) n) m + bkN (wN w00) n m = smB k00 m + k00 m
      rw [ih (by omega), g m (by omega)]
  exact this 16 (by omega)
section
variable {N n F H T : Nat} {S : rS} {w : Wd}
theorem w00_AI (c : cst F H T) : AI F H T w00 := by
  refine ⟨⟨⟨fun _ _ => False, c, fun n hn => ?_, fun x hx => absurd hx (by show ¬ x ∈ []; simp)⟩, fun n hn => ?_⟩, fun x hx => absurd hx (by show ¬ x ∈ []; simp), fun n hn k hk => Or.inl ?_⟩
  · refine ⟨?_, fun q hq => absurd hq (by show ¬ q < 0; omega), fun c p r s m _ _ _ _ e => ?_, fun p r m _ _ e => ?_, fun s m _ e => ?_, fun s m _ e => ?_, fun s m _ e => ?_, ⟨fun _ => rfl, fun z => ?_, fun _ => rfl, fun z => ?_⟩, fun i hi => ?_, fun m z => absurd z id, fun m m' z => absurd z id, ⟨w00_b n, z32, rfl, z32_ok⟩, fun _ i m hi => ?_⟩
    · show (0 ≤ (1 : Int) ∧ (1 : Int) ≤ 1) ∧ (1 ≤ (1 : Int) ∧ (1 : Int) ≤ 41) ∧ (0 ≤ (0 : Int) ∧ (0 : Int) < 16) ∧ (0 ≤ (0 : Int) ∧ (0 : Int) ≤ 2) ∧ (-1 ≤ (-1 : Int) ∧ (-1 : Int) ≤ 0) ∧ (-1 ≤ (-1 : Int) ∧ (-1 : Int) ≤ 0) ∧ (0 ≤ (0 : Int) ∧ (0 : Int) ≤ 1) ∧ (0 ≤ (0 : Int) ∧ (0 : Int) ≤ 1) ∧ (0 ≤ (0 : Int) ∧ (0 : Int) ≤ 1) ∧ (0 ≤ (0 : Int) ∧ (0 : Int) ≤ 1000) ∧ 0 ≤ (0 : Int) ∧ (-1 ≤ (0 : Int) ∧ (0 : Int) ≤ 300) ∧ 0 ≤ (0 : Int) ∧ ((-1 : Int) = 0 → (-1 : Int) = 0) ∧ ((-1 : Int) = 0 → (0 : Int) = 2 ∨ (-1 : Int) = 0)
      decide
    · rw [w00_y (by decide)] at e; cases e
    · rw [w00_y (by decide)] at e; cases e
    · rw [w00_y (by decide)] at e; cases e
    · rw [w00_y (by decide)] at e; cases e
    · rw [w00_y (by decide)] at e; cases e
    · have z : (0 : Int) ≤ -1 := z
      omega
    · have z : (0 : Int) ≤ -1 := z
      omega
    · have hi : (i : Int) < 0 := hi
      omega
    · have hi : (i : Int) < 0 := hi
      omega
  · show (0 : Int) ≤ 5 * 0 + 2 + 0 + (if (-1 : Int) = 0 then 1 else 0) ∧ (0 : Int) ≤ 3 * 0 + 1 + 0
    decide
  · show (if k = 0 ∨ k = 1 then (1 : Int) else if k = 4 ∨ k = 5 ∨ (9 ≤ k ∧ k ≤ 11) then -1 else if 32 ≤ k ∧ k < 48 then 1000 else 0) = -1
    rw [if_neg (by omega), if_pos (by omega)]
/-- so many nodes have been set up -/
def inS (S : rS) (H j : Nat) (y : rS) : Prop := rfr [14, 43, 44, 47, 48, 52, 80, 82] S y ∧ (∀ x, y.2.1 14 x = nI 0) ∧ ∀ n, n < j → y.2.1 43 n = nI (if n < H then 1 else 0) ∧ y.2.1 44 n = nI 1 ∧ y.2.1 47 n = -1 ∧ y.2.1 48 n = -1 ∧ (∀ i, i < 3 → y.2.1 52 (3 * n + i) = -1) ∧ y.2.1 80 n = nI 1 ∧ ∀ a, a < 16 → y.2.1 82 (16 * n + a) = nI 1000
theorem byt0 {k : Nat} (hk : k < 8) : byt 0 k = nI 0 := by
  rcases (show k = 0 ∨ k = 1 ∨ k = 2 ∨ k = 3 ∨ k = 4 ∨ k = 5 ∨ k = 6 ∨ k = 7 by omega) with e | e | e | e | e | e | e | e <;> rw [e] <;> decide
theorem w00_rp (c : cst F H T) (h0 : rfr [0, 1, 2, 10, 11, 25, 26] rZ S) (h1 : S.1 0 = nI T) (h2 : S.1 1 = nI F) (h3 : S.1 2 = nI (T - H)) (hK : rK S) (h25 : S.1 25 = nI 1000) (h26 : ∀ i, i < 1000 → S.2.1 26 i = nI i) {y : rS} (hy : inS S H 13 y) : rRp F H T y w00 := by
  obtain ⟨f, y14, hn⟩ := hy
  have cb := c.b
  have zI : ∀ k, k ∉ [0, 1, 2, 10, 11, 25, 26, 14, 43, 44, 47, 48, 52, 80, 82] → y.1 k = nI 0 := fun k hk => by
    rw [f.i k (fun z => hk (by simp at z ⊢; omega)), h0.i k (fun z => hk (by simp at z ⊢; omega))]
    rfl
  have zA : ∀ k, k ∉ [0, 1, 2, 10, 11, 25, 26, 14, 43, 44, 47, 48, 52, 80, 82] → ∀ x, y.2.1 k x = nI 0 := fun k hk x => by
    rw [f.a k (fun z => hk (by simp at z ⊢; omega)), h0.a k (fun z => hk (by simp at z ⊢; omega))]
    rfl
  have zL : ∀ k, k ∉ [0, 1, 2, 10, 11, 25, 26, 14, 43, 44, 47, 48, 52, 80, 82] → ∀ x, y.2.2 k x = 0 := fun k hk x => by
    rw [f.l k (fun z => hk (by simp at z ⊢; omega)), h0.l k (fun z => hk (by simp at z ⊢; omega))]
    rfl
  have no : ∀ p, oR y p none := fun p => y14 p
  refine ⟨⟨c, by rw [f.i 0 (by decide)]; exact h1, by rw [f.i 1 (by decide)]; exact h2, by rw [f.i 2 (by decide)]; exact h3, hK.fr f (by decide) (by decide), zI 3 (by decide), by show 0 < 900000; omega, zI 22 (by decide), by show 0 ≤ 1000; omega, fun i hi => absurd hi (by show ¬ i < 0; omega), isB_nil⟩, ⟨⟨fun j => 999 - j, zI 23 (by decide), by show 0 ≤ 1000; omega, by rw [f.i 25 (by decide)]; exact h25, fun k hk => absurd hk (by show ¬ k < 0; omega), fun j _ hj => by rw [f.a 26 (by decide)]; exact h26 (999 - j) (by omega), fun j hj => by show 999 - j < 1000; omega, fun i j hi hj e => by have e : 999 - i = 999 - j := e; omega, fun k hk => absurd hk (by show ¬ k < 0; omega)⟩, zI 4 (by decide), zI 5 (by decide)⟩, fun n k h hk => ?_, fun n s h hs => by rw [zA 74 (by decide), w00_w]; rfl, fun n s i h hs hi => ⟨?_, by show 0 < 256; omega⟩, fun n h => ⟨no _, no _⟩, fun n q h hq => ⟨no _, fun m e => by rw [w00_y (by decide)] at e; cases e⟩, fun n q h hq => zA 60 (by decide) _, fun n s h hs => no _, fun n s h hs => ?_, fun n i h hi => absurd hi (by show ¬ (i : Int) < 0; omega), fun n h => ⟨zA 53 (by decide) _, by show 0 ≤ 80; omega, fun q hq => absurd hq (by show ¬ q < 0; omega)⟩, fun n s h hs => zA 55 (by decide) _, fun n s h hs => zA 57 (by decide) _, fun n h => ?_⟩
  · obtain ⟨a1, a2, a3, a4, a5, a6, a7⟩ := hn n (by omega)
    rw [if_pos h] at a1
    rcases (show k = 0 ∨ k = 1 ∨ k = 2 ∨ k = 3 ∨ k = 4 ∨ k = 5 ∨ k = 6 ∨ k = 7 ∨ k = 8 ∨ k = 9 ∨ k = 10 ∨ k = 11 ∨ k = 12 ∨ k = 13 ∨ k = 14 ∨ k = 15 ∨ k = 16 ∨ k = 17 by omega) with e | e | e | e | e | e | e | e | e | e | e | e | e | e | e | e | e | e <;> rw [e]
    · exact a1
    · exact a2
    · exact zA 45 (by decide) n
    · exact zA 46 (by decide) n
    · exact a3
    · exact a4
    · exact zA 49 (by decide) n
    · exact zA 50 (by decide) n
    · exact zA 51 (by decide) n
    · exact a5 0 (by decide)
    · exact a5 1 (by decide)
    · exact a5 2 (by decide)
    · exact zA 75 (by decide) n
    · exact zA 76 (by decide) n
    · exact zA 77 (by decide) n
    · exact zA 78 (by decide) n
    · exact zA 79 (by decide) n
    · exact zA 65 (by decide) n
  · unfold lby
    rw [zL 73 (by decide)]
    exact byt0 (by omega)
  · rw [w00_y (by decide)]
    exact no _
  · obtain ⟨a1, a2, a3, a4, a5, a6, a7⟩ := hn n (by omega)
    refine ⟨1, 1, k00, z32, rfl, (by omega), (by omega), (by omega), a6, k00_ok, fun a ha => ⟨?_, ?_, ?_⟩, fun h h1 h2 => by omega, fun i hi => ?_, rfl, z32_ok.1, z32_ok.2, fun _ => rfl, fun z => absurd rfl z, fun z => absurd rfl z⟩
    · rw [a7 a ha]
      unfold k00
      rw [if_pos ha]
      rfl
    · rw [zA 83 (by decide)]
      unfold k00
      rw [if_neg (by omega)]
      rfl
    · rw [zA 84 (by decide)]
      unfold k00
      rw [if_neg (by omega)]
      rfl
    · show k00 i = wN w00 n (32 + i)
      exact ((w00_k n i).resolve_right (by omega)).symm
theorem init_l706 {j : Nat} (hN : 1000 ≤ N) (hj : j < 13) : wp (OL_init_706 N N (nI j) (nI 0) S) (L_init_706 N N (nI j) (nI 0) S) (fun z => z = (0, nI j, z.2.2) ∧ rfr [82] S z.2.2 ∧ ∀ x, z.2.2.2.1 82 x = if 16 * j ≤ x ∧ x < 16 * j + 16 then nI 1000 else S.2.1 82 x) := by
  refine wp_loop (K := 16) (fun a y => rfr [82] S y ∧ ∀ x, y.2.1 82 x = if 16 * j ≤ x ∧ x < 16 * j + a then nI 1000 else S.2.1 82 x) (fun q a y => OL_init_706 N q (nI j) (nI a) y) (fun q a y => L_init_706 N q (nI j) (nI a) y) (fun q a y ha hI ih => ?_) 0 N S (by omega) (by omega) ⟨rfr.refl, fun x => by rw [if_neg (by omega)]⟩
  unfold OL_init_706 L_init_706 OB_init_706 B_init_706
  by_cases e : a = 16
  · refine wp_pos (by rw [n_le' (by omega) (by omega)]; omega) ?_
    subst e
    exact wp_fin trivial ⟨rfl, hI⟩
  rw [n_mul, n_add, n_clamp (by omega), n_add]
  refine wp_neg (by rw [n_le' (by omega) (by omega)]; omega) (wp_and ((n_in (by omega)).2 (by omega)) (ih _ ⟨hI.1.trans (rfr.one (by decide)), fun x => ?_⟩ (by omega)))
  rw [A_same]
  by_cases c : x = 16 * j + a
  · rw [c, upd_same, if_pos (by omega)]
  · rw [upd_other _ _ c, hI.2 x]
    by_cases c2 : 16 * j ≤ x ∧ x < 16 * j + a
    · rw [if_pos c2, if_pos (by omega)]
    · rw [if_neg c2, if_neg (by omega)]
theorem honest_v {j : Nat} (hT : T ≤ 13) (hH : H ≤ T) (h1 : S.1 0 = nI T) (h3 : S.1 2 = nI (T - H)) (hj : j < 13) : o_isHonest N S (nI j) ∧ f_isHonest N S (nI j) = nI (if j < H then 1 else 0) := by
  show wp (O_isHonest_0 N (nI j) S) (F_isHonest_0 N (nI j) S) (fun v => v = nI (if j < H then 1 else 0))
  unfold O_isHonest_0 F_isHonest_0
  rw [h1, h3, n_sub (by omega), show T - (T - H) = H by omega]
  refine wp_neg (n_lt0 (by omega)) (wp_ite (fun d => ?_) (fun d => ?_)) <;> rw [n_le' (by omega) (by omega)] at d
  · unfold O_isHonest_21 F_isHonest_21 O_isHonest_22 F_isHonest_22
    rw [if_neg (by omega)]
    exact wp_fin rfl rfl
  · unfold O_isHonest_22 F_isHonest_22
    rw [if_pos (by omega)]
    exact wp_fin rfl rfl
theorem init_l672 (hN : 1000 ≤ N) (hT : T ≤ 13) (hH : H ≤ T) (h1 : S.1 0 = nI T) (h3 : S.1 2 = nI (T - H)) (h14 : ∀ x, S.2.1 14 x = nI 0) : wp (OL_init_672 N N (nI 0) S) (L_init_672 N N (nI 0) S) (fun z => inS S H 13 z.2) := by
  refine wp_loop (K := 13) (fun j y => inS S H j y) (fun q j y => OL_init_672 N q (nI j) y) (fun q j y => L_init_672 N q (nI j) y) (fun q j y hj hI ih => ?_) 0 N S (by omega) (by omega) ⟨rfr.refl, h14, fun n hn => absurd hn (by omega)⟩
  unfold OL_init_672 L_init_672 OB_init_672 B_init_672
  by_cases e : j = 13
  · refine wp_pos (by rw [n_le' (by omega) (by omega)]; omega) ?_
    subst e
    exact wp_fin trivial hI
  obtain ⟨f, y14, hn⟩ := hI
  obtain ⟨v1, v2⟩ := honest_v (N := N) (S := y) (j := j) hT hH (by rw [f.i 0 (by decide)]; exact h1) (by rw [f.i 2 (by decide)]; exact h3) (by omega)
  rw [v2, n_clamp (by omega)]
  refine wp_neg (by rw [n_le' (by omega) (by omega)]; omega) (wp_and v1 (wp_and ⟨((n_in (by omega)).2 (by omega)), ?_⟩ (wp_and ((n_in (by omega)).2 (by omega)) ?_)))
  · by_cases c : j < H
    · rw [if_pos c]; rfl
    · rw [if_neg c]; rfl
  generalize hv : (if j < H then 1 else 0 : Nat) = v at *
  have f1 : rfr [43] y (rsA y 43 j (nI v)) := rfr.one (by decide)
  have e1 : (rsA y 43 j (nI v)).2.1 43 = upd (y.2.1 43) j (nI v) := A_same _ _ _ _
  generalize rsA y 43 j (nI v) = S1 at f1 e1 ⊢
  have f2 : rfr [44] S1 (rsA S1 44 j (nI 1)) := rfr.one (by decide)
  have e2 : (rsA S1 44 j (nI 1)).2.1 44 = upd (S1.2.1 44) j (nI 1) := A_same _ _ _ _
  generalize rsA S1 44 j (nI 1) = S2 at f2 e2 ⊢
  unfold O_init_696 F_init_696
  rw [n_clamp (by omega)]
  have f3 : rfr [80] S2 (rsA S2 80 j (nI 1)) := rfr.one (by decide)
  have e3 : (rsA S2 80 j (nI 1)).2.1 80 = upd (S2.2.1 80) j (nI 1) := A_same _ _ _ _
  generalize rsA S2 80 j (nI 1) = S3 at f3 e3 ⊢
  refine wp_and ((n_in (by omega)).2 (by omega)) (wp_seq (init_l706 hN (by omega)) ?_)
  rintro z ⟨z0, f4, e4⟩
  rw [z0]
  generalize z.2.2 = S4 at f4 e4 ⊢
  show wp (O_init_734 N (OL_init_672 N q) (nI j) S4) (F_init_734 N (L_init_672 N q) (nI j) S4) _
  unfold O_init_734 F_init_734
  refine wp_call (unlock_ok (by omega)) (fun r => ?_)
  have g1 : rfr [14, 47, 48] S4 (rsA (rsA (rsA (rsA S4 14 (1118 + j) (nI 0)) 14 (1131 + j) (nI 0)) 47 j (-1)) 48 j (-1)) := (((rfr.one (by decide)).trans (rfr.one (by decide))).trans (rfr.one (by decide))).trans (rfr.one (by decide))
  have g47 : (rsA (rsA (rsA (rsA S4 14 (1118 + j) (nI 0)) 14 (1131 + j) (nI 0)) 47 j (-1)) 48 j (-1)).2.1 47 = upd (S4.2.1 47) j (-1) := by
    rw [A_other _ _ _ (by decide), A_same, A_other _ _ _ (by decide), A_other _ _ _ (by decide)]
  have g48 : (rsA (rsA (rsA (rsA S4 14 (1118 + j) (nI 0)) 14 (1131 + j) (nI 0)) 47 j (-1)) 48 j (-1)).2.1 48 = upd (S4.2.1 48) j (-1) := by
    rw [A_same, A_other _ _ _ (by decide), A_other _ _ _ (by decide), A_other _ _ _ (by decide)]
  have g14 : ∀ x, (rsA (rsA (rsA (rsA S4 14 (1118 + j) (nI 0)) 14 (1131 + j) (nI 0)) 47 j (-1)) 48 j (-1)).2.1 14 x = nI 0 := fun x => by
    rw [A_other _ _ _ (by decide), A_other _ _ _ (by decide), A_same, A_same]
    by_cases c : x = 1131 + j
    · rw [c, upd_same]
    rw [upd_other _ _ c]
    by_cases c : x = 1118 + j
    · rw [c, upd_same]
    rw [upd_other _ _ c, f4.a 14 (by decide), f3.a 14 (by decide), f2.a 14 (by decide), f1.a 14 (by decide)]
    exact y14 x
  rw [← r] at g1 g47 g48 g14
  generalize f_unlock N S4 (nI j) = S5 at g1 g47 g48 g14 ⊢
  unfold O_init_739 F_init_739
  refine wp_call (noTimers_ok (n := j) (by omega) (by omega)) (fun r => ?_)
  obtain ⟨f6, e6⟩ := r
  generalize f_noTimers N S5 (nI j) = S6 at f6 e6 ⊢
  unfold O_init_744 F_init_744
  rw [n_add]
  refine ih S6 ⟨?_, fun x => ?_, fun n hn' => ?_⟩ (by omega)
  · exact f.trans ((f1.mono (by decide)).trans ((f2.mono (by decide)).trans ((f3.mono (by decide)).trans ((f4.mono (by decide)).trans ((g1.mono (by decide)).trans (f6.mono (by decide)))))))
  · rw [f6.a 14 (by decide)]
    exact g14 x
  · have r43 : S6.2.1 43 = upd (y.2.1 43) j (nI v) := by rw [f6.a 43 (by decide), g1.a 43 (by decide), f4.a 43 (by decide), f3.a 43 (by decide), f2.a 43 (by decide), e1]
    have r44 : S6.2.1 44 = upd (y.2.1 44) j (nI 1) := by rw [f6.a 44 (by decide), g1.a 44 (by decide), f4.a 44 (by decide), f3.a 44 (by decide), e2, f1.a 44 (by decide)]
    have r80 : S6.2.1 80 = upd (y.2.1 80) j (nI 1) := by rw [f6.a 80 (by decide), g1.a 80 (by decide), f4.a 80 (by decide), e3, f2.a 80 (by decide), f1.a 80 (by decide)]
    have r47 : S6.2.1 47 = upd (y.2.1 47) j (-1) := by rw [f6.a 47 (by decide), g47, f4.a 47 (by decide), f3.a 47 (by decide), f2.a 47 (by decide), f1.a 47 (by decide)]
    have r48 : S6.2.1 48 = upd (y.2.1 48) j (-1) := by rw [f6.a 48 (by decide), g48, f4.a 48 (by decide), f3.a 48 (by decide), f2.a 48 (by decide), f1.a 48 (by decide)]
    have r52 : ∀ x, S6.2.1 52 x = if 3 * j ≤ x ∧ x < 3 * j + 3 then -1 else y.2.1 52 x := fun x => by rw [e6, g1.a 52 (by decide), f4.a 52 (by decide), f3.a 52 (by decide), f2.a 52 (by decide), f1.a 52 (by decide)]
    have r82 : ∀ x, S6.2.1 82 x = if 16 * j ≤ x ∧ x < 16 * j + 16 then nI 1000 else y.2.1 82 x := fun x => by rw [f6.a 82 (by decide), g1.a 82 (by decide), e4, f3.a 82 (by decide), f2.a 82 (by decide), f1.a 82 (by decide)]
    rw [r43, r44, r47, r48, r80]
    by_cases c : n = j
    · rw [c, upd_same, upd_same, upd_same, upd_same, upd_same, hv]
      exact ⟨rfl, rfl, rfl, rfl, fun i hi => by rw [r52, if_pos (by omega)], rfl, fun a ha => by rw [r82, if_pos (by omega)]⟩
    · rw [upd_other _ _ c, upd_other _ _ c, upd_other _ _ c, upd_other _ _ c, upd_other _ _ c]
      obtain ⟨a1, a2, a3, a4, a5, a6, a7⟩ := hn n (by omega)
      exact ⟨a1, a2, a3, a4, fun i hi => by rw [r52, if_neg (by omega)]; exact a5 i hi, a6, fun a ha => by rw [r82, if_neg (by omega)]; exact a7 a ha⟩
end
end
