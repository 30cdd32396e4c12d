section
/-! THE CLASS'S POOL: payments of a block go out -/
/-- without some -/
noncomputable def flL (A : List Nat → Prop) : List (List Nat) → List (List Nat)
  | [] => []
  | x :: l => @ite _ (A x) (Classical.propDecidable _) (flL A l) (x :: flL A l)
/-- none is there twice -/
def nDp : List (List Nat) → Prop
  | [] => True
  | x :: l => x ∉ l ∧ nDp l
theorem flL_y {A : List Nat → Prop} {x : List Nat} {l : List (List Nat)} (h : A x) : flL A (x :: l) = flL A l := if_pos h
theorem flL_n {A : List Nat → Prop} {x : List Nat} {l : List (List Nat)} (h : ¬ A x) : flL A (x :: l) = x :: flL A l := if_neg h
theorem flL_app {A : List Nat → Prop} {b : List (List Nat)} : ∀ a : List (List Nat), flL A (a ++ b) = flL A a ++ flL A b
  | [] => rfl
  | x :: l => by
    show flL A (x :: (l ++ b)) = flL A (x :: l) ++ flL A b
    by_cases c : A x
    · rw [flL_y c, flL_y c, flL_app l]
    · rw [flL_n c, flL_n c, flL_app l]
      rfl
theorem flL_cg {A B : List Nat → Prop} : ∀ l : List (List Nat), (∀ q, q ∈ l → (A q ↔ B q)) → flL A l = flL B l
  | [], _ => rfl
  | x :: l, h => by
    have ih := flL_cg l (fun q hq => h q (List.mem_cons_of_mem _ hq))
    have hx := h x (by simp)
    by_cases c : A x
    · rw [flL_y c, flL_y (hx.1 c), ih]
    · rw [flL_n c, flL_n (fun z => c (hx.2 z)), ih]
theorem flL_2 {A B : List Nat → Prop} : ∀ l : List (List Nat), flL A (flL B l) = flL (fun q => A q ∨ B q) l
  | [] => rfl
  | x :: l => by
    by_cases b : B x
    · rw [flL_y b, flL_y (A := fun q => A q ∨ B q) (Or.inr b), flL_2 l]
    · rw [flL_n b]
      by_cases a : A x
      · rw [flL_y a, flL_y (A := fun q => A q ∨ B q) (Or.inl a), flL_2 l]
      · rw [flL_n a, flL_n (A := fun q => A q ∨ B q) (fun z => z.elim a b), flL_2 l]
theorem flL_mem {A : List Nat → Prop} {q : List Nat} : ∀ l : List (List Nat), q ∈ flL A l → q ∈ l
  | [], h => h
  | x :: l, h => by
    by_cases a : A x
    · rw [flL_y a] at h
      exact List.mem_cons_of_mem _ (flL_mem l h)
    · rw [flL_n a] at h
      rcases List.mem_cons.1 h with h | h
      · rw [h]
        simp
      · exact List.mem_cons_of_mem _ (flL_mem l h)
theorem nDp.fl {A : List Nat → Prop} : ∀ l : List (List Nat), nDp l → nDp (flL A l)
  | [], _ => trivial
  | x :: l, h => by
    by_cases a : A x
    · rw [flL_y a]
      exact nDp.fl l h.2
    · rw [flL_n a]
      exact ⟨fun z => h.1 (flL_mem l z), nDp.fl l h.2⟩
theorem flL_no {A : List Nat → Prop} : ∀ l : List (List Nat), (∀ q, q ∈ l → ¬ A q) → flL A l = l
  | [], _ => rfl
  | x :: l, h => by
    rw [flL_n (h x (by simp)), flL_no l (fun q hq => h q (List.mem_cons_of_mem _ hq))]
theorem pg_in {l : List (List Nat)} {i : Nat} (h : i < l.length) : pg l i ∈ l := by
  unfold pg
  rw [List.getD_eq_getElem?_getD, List.getElem?_eq_getElem h]
  exact List.getElem_mem h
theorem pg_cons {x : List Nat} {l : List (List Nat)} {i : Nat} : pg (x :: l) (i + 1) = pg l i := rfl
theorem pg_ex : ∀ {l : List (List Nat)} {x : List Nat}, x ∈ l → ∃ i, i < l.length ∧ pg l i = x
  | [], x, h => by cases h
  | y :: l, x, h => by
    rcases List.mem_cons.1 h with h | h
    · exact ⟨0, by show 0 < l.length + 1; omega, h.symm⟩
    · obtain ⟨i, i1, i2⟩ := pg_ex h
      exact ⟨i + 1, by show i + 1 < l.length + 1; omega, i2⟩
/-- one is taken out -/
theorem flL_one {x : List Nat} : ∀ (l : List (List Nat)) (i : Nat), nDp l → i < l.length → pg l i = x → (flL (fun q => q = x) l).length + 1 = l.length ∧ ∀ q, q + 1 < l.length → pg (flL (fun q => q = x) l) q = if q < i then pg l q else pg l (q + 1)
  | [], i, _, hi, _ => absurd hi (Nat.not_lt_zero _)
  | y :: l, i, hd, hi, hx => by
    by_cases c : y = x
    · have e0 : i = 0 := by
        rcases Nat.eq_zero_or_pos i with h | h
        · exact h
        · have e : pg (y :: l) i = pg l (i - 1) := by
            have q : pg (y :: l) (i - 1 + 1) = pg l (i - 1) := rfl
            rw [show i - 1 + 1 = i by omega] at q
            exact q
          have hi : i < l.length + 1 := hi
          have := pg_in (l := l) (i := i - 1) (by omega)
          rw [← e, hx, ← c] at this
          exact absurd this hd.1
      have no : flL (fun q => q = x) l = l := flL_no l (fun q hq z => hd.1 (by rw [c, ← z]; exact hq))
      rw [flL_y (A := fun q => q = x) c, no]
      refine ⟨rfl, fun q hq => ?_⟩
      rw [if_neg (by omega)]
      rfl
    · cases i with
      | zero => exact absurd hx c
      | succ i =>
        have hi : i + 1 < l.length + 1 := hi
        obtain ⟨h1, h2⟩ := flL_one l i hd.2 (by omega) hx
        rw [flL_n (A := fun q => q = x) c]
        refine ⟨by show (flL (fun q => q = x) l).length + 1 + 1 = l.length + 1; omega, fun q hq => ?_⟩
        have hq : q + 1 < l.length + 1 := hq
        cases q with
        | zero => rw [if_pos (by omega)]; rfl
        | succ q =>
          have := h2 q (by omega)
          show pg (flL (fun q => q = x) l) q = if q + 1 < i + 1 then pg l q else pg l (q + 1)
          rw [this]
          by_cases d : q < i
          · rw [if_pos d, if_pos (by omega)]
          · rw [if_neg d, if_neg (by omega)]
theorem kpL_fl {l : List (List Nat)} {b : List Nat} : ∀ j, kpL l b j = flL (inPy b) ((List.range j).map (pg l))
  | 0 => rfl
  | j + 1 => by
    rw [List.range_succ, List.map_append, flL_app, ← kpL_fl j]
    show @ite _ (inPy b (pg l j)) (Classical.propDecidable _) (kpL l b j) (kpL l b j ++ [pg l j]) = kpL l b j ++ flL (inPy b) [pg l j]
    by_cases c : inPy b (pg l j)
    · rw [if_pos c, flL_y c]
      show _ = kpL l b j ++ []
      rw [List.append_nil]
    · rw [if_neg c, flL_n c]
      rfl
theorem kpL_all {l : List (List Nat)} {b : List Nat} : kpL l b l.length = flL (inPy b) l := by
  rw [kpL_fl]
  congr 1
  refine pg_ext (by rw [List.length_map, List.length_range]) (fun p hp => ?_)
  rw [List.length_map, List.length_range] at hp
  rw [pg_map, if_pos hp]
section
variable {F N g H T n : Nat} {s s' : cS} {ct : Nat → List Nat} {hd : List Nat} {w w' W : Wd} {pe pe' : Nat → Int} {v v' v0 : Nat → Int} {y y' z z' : Nat → Nat → Option (List Nat)} {p : List (List Nat)} {x : Nat → Nat → Nat} {pn : Int} {a : Nat}
/-- a row of longs of a node is written -/
theorem HP.jr {b : Nat} {f : Nat → Int64} (h : HP g H T s ct hd) (hb : b < nd g H) : HP g H T (csJrow s b f) ct hd := by
  have hk := fun c (hc : 1 ≤ us g H T s hd c) => h.k hc
  have ln := fun c (hc : cK s c = 5) => h.n hc
  refine h.fr (fun _ => Iff.rfl) (fun _ _ => rfl) (fun _ _ => rfl) (fun _ _ => rfl) (fun _ _ => rfl) (fun c => ?_) (fun c hc hc2 => ?_) h.2.2.2.2
  · unfold us
    rw [cnA_fr (s := s) (s' := csJrow s b f) rfl (fun _ _ _ _ => rfl) (fun _ _ _ _ => rfl)]
  · have k5 := hk c hc
    exact hc2.fr rfl rfl rfl rfl rfl (cJ_other _ _ (by have := ln c k5; omega)) rfl
theorem CRb.jr {o : Nat} {f : Nat → Int64} (h : CRb F g H T s ct hd w pe n) (hn : n < H) (ho : o < 24) : CRb F g H T (csJrow s (nd g n + o) f) ct hd w pe n := by
  obtain ⟨h1, h2, h3, h4, h5, h6⟩ := h
  exact ⟨h1, h2.Jr _ _, h3, h4.jr (by unfold nd; omega), h5.fr rfl rfl rfl rfl (fun _ _ => rfl), h6.one hn (xfr_J.mono (fun b _ z => by unfold ndP; omega)) rfl⟩
/-- payments as they are -/
def plO7 (p : List (List Nat)) : Prop := ∀ q, q ∈ p → q.length = 7 ∧ isB q
theorem find_c {b : Nat} {c : List Nat} (hN : 100 ≤ N) (h : qP s b p) (ho : plO7 p) (hc : c.length = 7 ∧ isB c) : wp (p_X8_find N g H T s (b + 14) (coD c)) (k_X8_find N g H T s (b + 14) (coD c)) (fun v => (∃ i, i < p.length ∧ pg p i = c ∧ v = nI i) ∨ (c ∉ p ∧ v = -1)) := by
  obtain ⟨h1, h2, h3⟩ := h
  show wp (KO_X8_find_0 N g H T (b + 14) (coD c) s) (KF_X8_find_0 N g H T (b + 14) (coD c) s) _
  unfold KO_X8_find_0 KF_X8_find_0
  refine wp_seq (Q := fun z : Nat × Int32 × Unit => (∃ i, i < p.length ∧ pg p i = c ∧ z = (0, nI i, ())) ∨ (c ∉ p ∧ z = (1, 0, ()))) ?_ (fun z hz => ?_)
  rotate_left
  · unfold KOA_X8_find_2 KA_X8_find_2 KO_X8_find_21 KF_X8_find_21 KO_X8_find_29 KF_X8_find_29
    rcases hz with ⟨i, z1, z2, z3⟩ | ⟨z1, z3⟩
    · have e0 : z.1 = 0 := by rw [z3]
      rw [if_pos e0, if_pos e0, z3]
      exact wp_fin trivial (Or.inl ⟨i, z1, z2, rfl⟩)
    · have e0 : ¬ z.1 = 0 := by rw [z3]; exact (by decide : ¬ (1 : Nat) = 0)
      rw [if_neg e0, if_neg e0]
      exact wp_fin trivial (Or.inr ⟨z1, rfl⟩)
  refine wp_loop (K := p.length) (fun j (_ : Unit) => ∀ i, i < j → pg p i ≠ c) (fun r j _ => KOL_X8_find_2 N g H T r (b + 14) (coD c) (nI j) s) (fun r j _ => KL_X8_find_2 N g H T r (b + 14) (coD c) (nI j) s) (fun r j X hj hI ih => ?_) 0 N () (by omega) (by omega) (fun i hi => absurd hi (by omega))
  unfold KOL_X8_find_2 KL_X8_find_2 KOB_X8_find_2 KB_X8_find_2
  rw [h1]
  by_cases e : j = p.length
  · subst e
    refine wp_pos (by rw [n_le' (by omega) (by omega)]; omega) (wp_fin trivial (Or.inr ⟨fun q => ?_, rfl⟩))
    obtain ⟨i, i1, i2⟩ := pg_ex q
    exact hI i i1 i2
  have ej : b + 14 + 4 = b + 18 := rfl
  rw [n_clamp (by omega), ej, h3 j (by omega), n_add]
  have pj := ho _ (pg_in (l := p) (i := j) (by omega))
  refine wp_neg (by rw [n_le' (by omega) (by omega)]; omega) (wp_and ((n_in (by omega)).2 (by omega)) (wp_ite (fun d => ?_) (fun d => ?_))) <;> rw [lgc] at d
  · exact wp_fin trivial (Or.inl ⟨j, (by omega), coD_inj pj.2 hc.2 pj.1 hc.1 d, rfl⟩)
  · refine ih () (fun i hi => ?_) (by omega)
    by_cases f : i = j
    · rw [f]
      exact fun q => d (by rw [q])
    · exact hI i (by omega)
theorem CNz.pl {f : Nat → Int64} {q : Int32} {p' : List (List Nat)} (h : CNz g H T s ct n v y p x pn z) (hq : qP (csI (csJrow s (nd g n + 18) f) 12 (nd g n + 14) q) (nd g n) p') : CNz g H T (csI (csJrow s (nd g n + 18) f) 12 (nd g n + 14) q) ct n v y p' x pn z := by
  obtain ⟨c1, c2, c3, c4, c5, c6, c7, ⟨c8, c8b, c8c⟩, ⟨c9, c9b, c9c⟩, c10, c11, c12, c13, c14⟩ := h
  have I : ∀ k o, (k ≠ 12 ∨ o ≠ nd g n + 14) → cI (csI (csJrow s (nd g n + 18) f) 12 (nd g n + 14) q) k o = cI s k o := fun k o ho => cI_other _ _ ho
  refine ⟨?_, c2, ?_, c4, c5, ?_, c7, ⟨c8, c8b, ?_⟩, ⟨c9, c9b, ?_⟩, hq, c11, c12, ?_, c14⟩
  · unfold qN
    rw [I _ _ (Or.inr (by omega)), I _ _ (Or.inr (by omega)), I _ _ (Or.inr (by omega)), I _ _ (Or.inr (by omega)), I _ _ (Or.inr (by omega)), I _ _ (Or.inr (by omega)), I _ _ (Or.inr (by omega)), I _ _ (Or.inr (by omega)), I _ _ (Or.inr (by omega)), I _ _ (Or.inr (by omega))]
    exact c1
  · unfold qL
    rw [I _ _ (Or.inr (by omega)), I _ _ (Or.inr (by omega)), I _ _ (Or.inr (by omega)), I _ _ (Or.inr (by omega)), I _ _ (Or.inr (by omega))]
    exact c3
  · unfold qB bkC rtC
    rw [I _ _ (Or.inr (by omega)), I _ _ (Or.inr (by omega))]
    exact c6
  · rw [I _ _ (Or.inl (by decide))]
    exact c8c
  · rw [I _ _ (Or.inl (by decide))]
    exact c9c
  · rw [I _ _ (Or.inl (by decide))]
    exact c13
theorem removePayment_Z {c : List Nat} (hN : 100 ≤ N) (h : CRz F g H T s ct hd w pe n v y p x pn z) (hn : n < H) (ho : plO7 p) (hnd : nDp p) (hc : c.length = 7 ∧ isB c) : wp (p_X8_removePayment N g H T s (nd g n + 14) (coD c)) (k_X8_removePayment N g H T s (nd g n + 14) (coD c)) (fun s' => CRz F g H T s' ct hd w pe n v y (flL (fun q => q = c) p) x pn z ∧ cP s' = cP s ∧ (∀ a, cA s' a = cA s a) ∧ (∀ k a, a ≠ nd g n + 14 → cI s' k a = cI s k a) ∧ ∀ k a, cR s' k a = cR s k a) := by
  have qp := h.nz.2.2.2.2.2.2.2.2.2.1
  have fd := find_c (N := N) (g := g) (H := H) (T := T) hN qp ho hc
  show wp (KO_X8_removePayment_0 N g H T (nd g n + 14) (coD c) s) (KF_X8_removePayment_0 N g H T (nd g n + 14) (coD c) s) _
  unfold KO_X8_removePayment_0 KF_X8_removePayment_0 KO_X8_removePayment_43 KF_X8_removePayment_43
  refine wp_and fd.1 ?_
  have f2 := fd.2
  generalize k_X8_find N g H T s (nd g n + 14) (coD c) = i0 at f2 ⊢
  rcases f2 with ⟨i, f1, f2, f3⟩ | ⟨f1, f3⟩
  rotate_left
  · rw [f3]
    refine wp_pos (by decide) (wp_fin trivial ⟨?_, rfl, fun _ => rfl, fun _ _ _ => rfl, fun _ _ => rfl⟩)
    rw [flL_no p (fun q hq e => f1 (by rw [← e]; exact hq))]
    exact h
  · obtain ⟨h1, h2, h3⟩ := qp
    obtain ⟨g1, g2⟩ := flL_one p i hnd f1 f2
    have e4 : nd g n + 14 + 4 = nd g n + 18 := rfl
    rw [f3, h1, n_add, n_sub (by omega), n_sub (by omega), n_clamp (by omega), n_clamp (by omega), n_clamp (by omega), e4]
    refine wp_neg (n_lt0 (by omega)) (wp_and ⟨⟨n_lt0 (by omega), n_lt0 (by omega), n_lt0 (by omega)⟩, by omega, by omega⟩ ?_)
    unfold KO_X8_removePayment_33 KF_X8_removePayment_33 KO_X8_removePayment_43 KF_X8_removePayment_43
    have i12 : cI (csJrow s (nd g n + 18) (va_cpy (cJ s (nd g n + 18)) (cJ s (nd g n + 18)) (i + 1) i (p.length - i - 1))) 12 (nd g n + 14) = nI p.length := h1
    rw [i12, n_sub (by omega)]
    have qp' : qP (csI (csJrow s (nd g n + 18) (va_cpy (cJ s (nd g n + 18)) (cJ s (nd g n + 18)) (i + 1) i (p.length - i - 1))) 12 (nd g n + 14) (nI (p.length - 1))) (nd g n) (flL (fun q => q = c) p) := by
      refine ⟨by rw [cI_same]; congr 1; omega, by omega, fun q hq => ?_⟩
      show cJ (csJrow s (nd g n + 18) _) (nd g n + 18) q = _
      rw [cJ_same, g2 q (by omega)]
      unfold va_cpy
      by_cases d : q < i
      · rw [if_neg (by omega), if_pos d]
        exact h3 q (by omega)
      · rw [if_pos (by omega), if_neg d, show i + 1 + (q - i) = q + 1 by omega]
        exact h3 (q + 1) (by omega)
    refine wp_fin trivial ⟨CRb.zz ((h.bb.jr (o := 18) hn (by decide)).set hn ((cfr_I _ _ _ _).mono (fun b z => by unfold ndP; omega)) ((h.2.1.Jr _ _).I _ _ _)) (h.nz.pl qp'), rfl, fun _ => rfl, fun k a ha => cI_other _ _ (Or.inr ha), fun _ _ => rfl⟩
end
end
