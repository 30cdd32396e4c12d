section
/-! THE REFERENCE: a block on the tape is sealed -/
def eoT (l : List Nat) (n q z : Nat) : Nat := if q < n then (if bg l q = 1 ∧ q + 33 ≤ n then 33 else if bg l q = 0 ∧ z = 0 then 1 else 0) else 0
theorem eoT_c (l : List Nat) (n q z : Nat) : (eoT l n q z = 33 ∧ q < n ∧ bg l q = 1 ∧ q + 33 ≤ n) ∨ (eoT l n q z = 1 ∧ q < n ∧ bg l q = 0 ∧ z = 0) ∨ (eoT l n q z = 0 ∧ ¬ (bg l q = 1 ∧ q + 33 ≤ n) ∧ ¬ (q < n ∧ bg l q = 0 ∧ z = 0)) := by
  unfold eoT
  by_cases c : q < n
  · rw [if_pos c]
    by_cases d : bg l q = 1 ∧ q + 33 ≤ n
    · rw [if_pos d]; exact Or.inl ⟨rfl, c, d.1, d.2⟩
    · rw [if_neg d]
      by_cases e : bg l q = 0 ∧ z = 0
      · rw [if_pos e]; exact Or.inr (Or.inl ⟨rfl, c, e.1, e.2⟩)
      · rw [if_neg e]; exact Or.inr (Or.inr ⟨rfl, d, fun x => e x.2⟩)
  · rw [if_neg c]; exact Or.inr (Or.inr ⟨rfl, by omega, by omega⟩)
/-- how long the proof is that stands on the tape -/
def evT (l : List Nat) (n p : Nat) : Nat := if bg l (p + 5) = 0 ∧ p + 39 ≤ n ∧ bg l (p + 6) = 1 then 39 else if bg l (p + 5) = 1 ∧ p + 71 ≤ n ∧ bg l (p + 38) = 1 then 71 else 0
def evZ (l : List Nat) (n p : Nat) : Nat → Option (List (List Nat) × Nat)
  | 0 => some ([], p)
  | j + 1 => match evZ l n p j with
    | none => none
    | some z => if evT l n z.2 = 0 then none else some (z.1 ++ [sl l z.2 (evT l n z.2)], z.2 + evT l n z.2)
theorem evZ_none {l : List Nat} {n p j : Nat} (h : evZ l n p j = none) : ∀ d, evZ l n p (j + d) = none
  | 0 => h
  | d + 1 => by
    show (match evZ l n p (j + d) with
      | none => none
      | some z => if evT l n z.2 = 0 then none else some (z.1 ++ [sl l z.2 (evT l n z.2)], z.2 + evT l n z.2)) = none
    rw [evZ_none h d]
theorem evZ_no {l : List Nat} {n p j : Nat} {z : List (List Nat) × Nat} (h : evZ l n p j = some z) (e : evT l n z.2 = 0) : evZ l n p (j + 1) = none := by
  show (match evZ l n p j with
      | none => none
      | some z => if evT l n z.2 = 0 then none else some (z.1 ++ [sl l z.2 (evT l n z.2)], z.2 + evT l n z.2)) = none
  rw [h]
  exact if_pos e
theorem evZ_yes {l : List Nat} {n p j : Nat} {z : List (List Nat) × Nat} (h : evZ l n p j = some z) (e : ¬ evT l n z.2 = 0) : evZ l n p (j + 1) = some (z.1 ++ [sl l z.2 (evT l n z.2)], z.2 + evT l n z.2) := by
  show (match evZ l n p j with
      | none => none
      | some z => if evT l n z.2 = 0 then none else some (z.1 ++ [sl l z.2 (evT l n z.2)], z.2 + evT l n z.2)) = _
  rw [h]
  exact if_neg e
theorem evT_le (l : List Nat) (n p : Nat) : evT l n p = 0 ∨ (evT l n p = 39 ∧ p + 39 ≤ n) ∨ (evT l n p = 71 ∧ p + 71 ≤ n) := by
  unfold evT
  split
  · rename_i h; exact Or.inr (Or.inl ⟨rfl, h.2.1⟩)
  · split
    · rename_i h; exact Or.inr (Or.inr ⟨rfl, h.2.1⟩)
    · exact Or.inl rfl
def seZ (l : List Nat) (a n : Nat) : List (List Nat) × Nat × List Nat := match (if bg l (a + 100) ≤ 2 then evZ l n (a + 101) (bg l (a + 100)) else none) with
  | some z => (z.1, z.2, l)
  | none => ([], a + 101, laB l (a + 100) [0])
def seM (p n : Nat) : Nat := if 64 ≤ (n - p) / 7 then 64 else (n - p) / 7
def seQ (l : List Nat) (p k : Nat) : List (List Nat) := (List.range k).map (fun i => sl l (p + 7 * i) 7)
theorem seQ_succ (l : List Nat) (p k : Nat) : seQ l p (k + 1) = seQ l p k ++ [sl l (p + 7 * k) 7] := by
  unfold seQ
  rw [List.range_succ, List.map_append]
  rfl
theorem seQ_len (l : List Nat) (p k : Nat) : (seQ l p k).length = k := by
  unfold seQ
  rw [List.length_map, List.length_range]
theorem seQ_flat (l : List Nat) (p : Nat) : ∀ k, (seQ l p k).flatten.length = 7 * k
  | 0 => rfl
  | k + 1 => by
    rw [seQ_succ, List.flatten_append, List.length_append, seQ_flat l p k]
    simp [sl_len]
    omega
noncomputable def seAl (l : List Nat) (ps : List (List Nat)) (p n a : Nat) : List Nat := laB (laB l (a + 67) (rootP (ps ++ seQ l p (seM p n)))) (a + 99) [seM p n]
noncomputable def seH (w : Wd) (k : Nat) (l : List Nat) (a : Nat) : List Nat := laB (laB l (a + 3) ((wY w k 9 0).getD [])) (a + 35) (acR (bkN (wN w) k))
def seLy (w : Wd) (H a : Nat) (x : Int32) (l L : List Nat) : Prop := (∃ k, k < H ∧ x = nI k ∧ L = seH w k l a) ∨ ((¬ ∃ k, k < H ∧ x = nI k) ∧ L = l)
/-- so many bytes have been laid -/
def lyg (S : rS) (a : Nat) (d : List Nat) (j : Nat) (y : rS) : Prop := rfr [21] S y ∧ ∀ i, y.2.1 21 i = if a ≤ i ∧ i < a + j then nI (bg d (i - a)) else S.2.1 21 i
section
variable {N F H T : Nat} {S : rS} {w : Wd} {l d : List Nat} {ps : List (List Nat)}
theorem lyg.zero {a : Nat} : lyg S a d 0 S := ⟨rfr.refl, fun i => by rw [if_neg (by omega)]⟩
theorem lyg.step {a j : Nat} {y : rS} (h : lyg S a d j y) : lyg S a d (j + 1) (rsA y 21 (a + j) (nI (bg d j))) := ⟨h.1.trans (rfr.one (by decide)), fun i => by
  rw [A_same]
  by_cases c : i = a + j
  · rw [c, upd_same, if_pos (by omega), Nat.add_sub_cancel_left]
  · rw [upd_other _ _ c, h.2]
    by_cases c2 : a ≤ i ∧ i < a + j
    · rw [if_pos c2, if_pos (by omega)]
    · rw [if_neg c2, if_neg (by omega)]⟩
theorem lyg.tp {a : Nat} {y : rS} (h : lyg S a d d.length y) (t : tpR S l) (hd : isB d) : tpR y (laB l a d) := by
  obtain ⟨t1, t2, t3, t4⟩ := t
  refine ⟨?_, by rw [laB_len]; exact t2, fun i hi => ?_, laB_B a t4 hd⟩
  · rw [h.1.i 22 (by decide), laB_len]; exact t1
  · rw [laB_len] at hi
    unfold laB
    rw [mkB_in hi, h.2]
    by_cases c : a ≤ i ∧ i < a + d.length
    · rw [if_pos c, if_pos c]
    · rw [if_neg c, if_neg c]; exact t3 i hi
theorem endOnTape_q {n q z : Nat} (h : tpR S l) (hn : n ≤ l.length) (hz : z ≤ 1) (hq : q ≤ 2000) : wp (o_endOnTape N S (nI q) (nI n) (nI z)) (f_endOnTape N S (nI q) (nI n) (nI z)) (fun v => v = nI (eoT l n q z)) := by
  obtain ⟨h1, h2, h3, h4⟩ := h
  have b := h4 q
  show wp (O_endOnTape_0 N (nI q) (nI n) (nI z) S) (F_endOnTape_0 N (nI q) (nI n) (nI z) S) _
  unfold O_endOnTape_0 F_endOnTape_0
  have fin : ∀ s : Nat, s ≤ 33 → (if q + s ≤ n then s else 0) = eoT l n q z → wp (O_endOnTape_42 N (nI q) (nI n) (nI s) S) (F_endOnTape_42 N (nI q) (nI n) (nI s) S) (fun v => v = nI (eoT l n q z)) := fun s hs e => by
    unfold O_endOnTape_42 F_endOnTape_42
    rw [n_add]
    refine wp_ite (fun c => ?_) (fun c => ?_) <;> rw [n_le' (by omega) (by omega)] at c
    · rw [if_pos c] at e
      refine wp_fin trivial ?_
      show nI s = _
      rw [e]
    · rw [if_neg c] at e
      refine wp_fin trivial ?_
      show nI 0 = _
      rw [e]
  refine wp_ite (fun c => ?_) (fun c => ?_) <;> rw [n_lt' (by omega) (by omega)] at c
  rotate_left
  · exact fin 0 (by omega) (by unfold eoT; rw [if_neg c]; split <;> rfl)
  rw [n_clamp (by omega), h3 q (by omega)]
  refine wp_and ((n_in (by omega)).2 (by omega)) (wp_ite (fun d => ?_) (fun d => ?_)) <;> rw [n_eq' (by omega) (by omega)] at d
  · refine fin 33 (by omega) ?_
    unfold eoT
    rw [if_pos c]
    by_cases g : q + 33 ≤ n
    · rw [if_pos g, if_pos ⟨d, g⟩]
    · rw [if_neg g, if_neg (show ¬ (bg l q = 1 ∧ q + 33 ≤ n) by omega), if_neg (by omega)]
  refine wp_and ((n_in (by omega)).2 (by omega)) (wp_ite (fun d2 => ?_) (fun d2 => ?_)) <;> rw [n_eq0 (by omega)] at d2
  · refine wp_ite (fun d3 => ?_) (fun d3 => ?_) <;> rw [n_eq0 (by omega)] at d3
    · refine fin 1 (by omega) ?_
      unfold eoT
      rw [if_pos (show q + 1 ≤ n by omega), if_pos c, if_neg (show ¬ (bg l q = 1 ∧ q + 33 ≤ n) by omega), if_pos ⟨d2, d3⟩]
    · refine fin 0 (by omega) ?_
      unfold eoT
      rw [if_pos (show q + 0 ≤ n by omega), if_pos c, if_neg (show ¬ (bg l q = 1 ∧ q + 33 ≤ n) by omega), if_neg (by omega)]
  · refine fin 0 (by omega) ?_
    unfold eoT
    rw [if_pos (show q + 0 ≤ n by omega), if_pos c, if_neg (show ¬ (bg l q = 1 ∧ q + 33 ≤ n) by omega), if_neg (by omega)]
theorem proofOnTape_q {n p : Nat} (h : tpR S l) (hn : n ≤ l.length) (hp : p ≤ 1500) : wp (o_proofOnTape N S (nI p) (nI n)) (f_proofOnTape N S (nI p) (nI n)) (fun v => v = nI (evT l n p)) := by
  have h2 := h.2.1
  show wp (O_proofOnTape_0 N (nI p) (nI n) S) (F_proofOnTape_0 N (nI p) (nI n) S) _
  unfold O_proofOnTape_0 F_proofOnTape_0
  rw [n_add]
  refine wp_ite (fun c => ?_) (fun c => ?_) <;> rw [n_le' (by omega) (by omega)] at c
  rotate_left
  · refine wp_fin trivial ?_
    show nI 0 = _
    unfold evT
    rw [if_neg (by omega), if_neg (by omega)]
  obtain ⟨e1, e2⟩ := endOnTape_q (N := N) (z := 0) h hn (by omega) (show p + 5 ≤ 2000 by omega)
  have e2' : f_endOnTape N S (nI (p + 5)) (nI n) (nI 0) = nI (eoT l n (p + 5) 0) := e2
  rw [e2']
  refine wp_and e1 ?_
  have key : ∀ k : Nat, 1 ≤ k → k ≤ 33 → eoT l n (p + 5) 0 = k → nI (5 + k + eoT l n (p + 5 + k) 1) = nI (evT l n p) ∨ eoT l n (p + 5 + k) 1 = 0 ∧ evT l n p = 0 → (eoT l n (p + 5 + k) 1 = 0 → evT l n p = 0) → wp ((nI (eoT l n (p + 5) 0) ≤ 0 → O_proofOnTape_38 N (nI (eoT l n (p + 5) 0)) (nI 0) S) ∧ (¬ nI (eoT l n (p + 5) 0) ≤ 0 → (o_endOnTape N S (nI (p + 5) + nI (eoT l n (p + 5) 0)) (nI n) (nI 1)) ∧ O_proofOnTape_38 N (nI (eoT l n (p + 5) 0)) (f_endOnTape N S (nI (p + 5) + nI (eoT l n (p + 5) 0)) (nI n) (nI 1)) S)) (if nI (eoT l n (p + 5) 0) ≤ 0 then F_proofOnTape_38 N (nI (eoT l n (p + 5) 0)) (nI 0) S else F_proofOnTape_38 N (nI (eoT l n (p + 5) 0)) (f_endOnTape N S (nI (p + 5) + nI (eoT l n (p + 5) 0)) (nI n) (nI 1)) S) (fun v => v = nI (evT l n p)) := fun k k1 k2 k3 k4 k5 => by
    rw [k3, n_add]
    obtain ⟨g1, g2⟩ := endOnTape_q (N := N) (z := 1) h hn (by omega) (show p + 5 + k ≤ 2000 by omega)
    have g2' : f_endOnTape N S (nI (p + 5 + k)) (nI n) (nI 1) = nI (eoT l n (p + 5 + k) 1) := g2
    rw [g2']
    refine wp_neg (by rw [n_le0 (by omega)]; omega) (wp_and g1 ?_)
    have le : eoT l n (p + 5 + k) 1 ≤ 33 := by
      rcases eoT_c l n (p + 5 + k) 1 with u | u | u <;> omega
    unfold O_proofOnTape_38 F_proofOnTape_38
    refine wp_ite (fun q => ?_) (fun q => ?_) <;> rw [n_le0 (by omega)] at q
    · refine wp_fin trivial ?_
      show nI 0 = _
      rw [k5 (by omega)]
    · refine wp_fin trivial ?_
      show nI 5 + nI k + nI _ = _
      rw [n_add, n_add]
      rcases k4 with u | u
      · exact u
      · omega
  rcases eoT_c l n (p + 5) 0 with u | u | u
  · refine key 33 (by omega) (by omega) u.1 ?_ (fun v => ?_)
    · rcases eoT_c l n (p + 5 + 33) 1 with v | v | v
      · left
        rw [v.1]
        unfold evT
        rw [if_neg (by omega), if_pos (show bg l (p + 5) = 1 ∧ p + 71 ≤ n ∧ bg l (p + 38) = 1 from ⟨u.2.2.1, by omega, v.2.2.1⟩)]
      · omega
      · right
        refine ⟨v.1, ?_⟩
        unfold evT
        rw [if_neg (by omega), if_neg (fun z => v.2.1 ⟨z.2.2, by omega⟩)]
    · unfold evT
      rcases eoT_c l n (p + 5 + 33) 1 with x | x | x
      · omega
      · omega
      · rw [if_neg (by omega), if_neg (fun z => x.2.1 ⟨z.2.2, by omega⟩)]
  · refine key 1 (by omega) (by omega) u.1 ?_ (fun v => ?_)
    · rcases eoT_c l n (p + 5 + 1) 1 with v | v | v
      · left
        rw [v.1]
        unfold evT
        rw [if_pos (show bg l (p + 5) = 0 ∧ p + 39 ≤ n ∧ bg l (p + 6) = 1 from ⟨u.2.2.1, by omega, v.2.2.1⟩)]
      · omega
      · right
        refine ⟨v.1, ?_⟩
        unfold evT
        rw [if_neg (fun z => v.2.1 ⟨z.2.2, by omega⟩), if_neg (by omega)]
    · unfold evT
      rcases eoT_c l n (p + 5 + 1) 1 with x | x | x
      · omega
      · omega
      · rw [if_neg (fun z => x.2.1 ⟨z.2.2, by omega⟩), if_neg (by omega)]
  · rw [u.1]
    refine wp_pos (by decide) ?_
    unfold O_proofOnTape_38 F_proofOnTape_38
    refine wp_pos (by decide) (wp_fin trivial ?_)
    show nI 0 = _
    unfold evT
    rw [if_neg (by omega), if_neg (by omega)]
theorem partOnTape_ok {a n : Nat} (h : tpR S l) (hq : rQ S ps []) (hN : 1000 ≤ N) (ha : a + n ≤ l.length) (hn : ps.flatten.length + n ≤ 600) (hp : ps.length < 66) : wp (o_partOnTape N S (nI a) (nI n)) (f_partOnTape N S (nI a) (nI n)) (fun S' => rfr [15, 16, 17] S S' ∧ rQ S' (ps ++ [sl l a n]) []) := by
  obtain ⟨h1, h2, h3, h4⟩ := h
  refine wp_seq (Q := fun z => rfr [15, 16, 17] S z.2 ∧ rQ z.2 ps (sl l a n)) ?_ ?_
  · refine wp_loop (K := n) (fun j s => rfr [15, 16, 17] S s ∧ rQ s ps (sl l a j)) (fun n' j s => OL_partOnTape_2 N n' (nI a) (nI n) (nI j) s) (fun n' j s => L_partOnTape_2 N n' (nI a) (nI n) (nI j) s) (fun n' j s hj hI ih => ?_) 0 N S (by omega) (by omega) ⟨rfr.refl, hq⟩
    by_cases e : j = n
    · subst e
      exact wp_pos (by rw [n_le' (by omega) (by omega)]; omega) (wp_fin trivial hI)
    · refine wp_neg (by rw [n_le' (by omega) (by omega)]; omega) ?_
      simp only [n_add]
      rw [n_clamp (by omega), hI.1.a 21 (by decide), h3 (a + j) (by omega)]
      refine wp_and ((n_in (by omega)).2 (by omega)) (wp_call (partByte_ok (x := bg l (a + j)) hI.2 (by simp [sl_len]; simp at hn; omega)) (fun q => ?_))
      rw [sl_sn] at q
      have := ih _ ⟨hI.1.trans (q.1.mono (by decide)), q.2⟩ (by omega)
      unfold O_partOnTape_19 F_partOnTape_19
      rw [n_add]
      exact this
  · rintro z ⟨z1, z2⟩
    show wp (O_partOnTape_25 N z.2) (F_partOnTape_25 N z.2) _
    exact wp_call (endPart_ok z2 hp) (fun q => wp_ret ⟨z1.trans (q.1.mono (by decide)), q.2⟩)
theorem seal_294 {a m : Nat} {r : List Nat} (hN : 1000 ≤ N) (h : rRp F H T S w) (hr : rL S r) (rb : isB r) (rl : r.length = 32) (ha : a + 101 ≤ (wL w).length) : wp (O_seal_294 N (nI a) (nI m) S) (F_seal_294 N (nI a) (nI m) S) (fun z => rRp F H T z.2 (sL w (laB (wL w) (a + 35) r)) ∧ z.1 = nI m) := by
  have tp := h.co.2.2.2.2.2.2.2
  have tl := tp.2.1
  unfold O_seal_294 F_seal_294
  refine wp_seq (Q := fun z : Nat × Int32 × rS => z = (0, nI m, z.2.2) ∧ lyg S (a + 35) r 32 z.2.2) ?_ ?_
  · refine wp_loop (K := 32) (fun j y => lyg S (a + 35) r j y) (fun q j y => OL_seal_297 N q (nI a) (nI m) (nI j) y) (fun q j y => L_seal_297 N q (nI a) (nI m) (nI j) y) (fun q j y hj hI ih => ?_) 0 N S (by omega) (by omega) lyg.zero
    unfold OL_seal_297 L_seal_297 OB_seal_297 B_seal_297
    by_cases e : j = 32
    · refine wp_pos (by rw [n_le' (by omega) (by omega)]; omega) ?_
      subst e
      exact wp_fin trivial ⟨rfl, hI⟩
    obtain ⟨s1, s2⟩ := rootByte_ok (N := N) (S := y) (r := r) (k := j) (fun k hk => by rw [hI.1.l 18 (by decide)]; exact hr k hk) (by omega)
    have s2' : f_rootByte N y (nI j) = nI (bg r j) := s2
    rw [s2', n_add, n_add, n_clamp (by omega), n_add]
    exact wp_neg (by rw [n_le' (by omega) (by omega)]; omega) (wp_and s1 (wp_and ((n_in (by omega)).2 (by omega)) (ih _ hI.step (by omega))))
  rintro z ⟨z0, z1⟩
  rw [z0]
  unfold OA_seal_297 A_seal_297 O_seal_328 F_seal_328
  exact wp_fin trivial ⟨h.tape (z1.1.mono (by decide)) (lyg.tp (by rw [rl]; exact z1) tp rb), rfl⟩
theorem seal_232 {a m : Nat} {x : Int32} (hN : 1000 ≤ N) (h : rRp F H T S w) (hm : m ≤ 64) (ha : a + 101 ≤ (wL w).length) : wp (O_seal_232 N (nI a) x (nI m) S) (F_seal_232 N (nI a) x (nI m) S) (fun z => (∃ L, seLy w H a x (laB (wL w) (a + 99) [m]) L ∧ rRp F H T z.2 (sL w L)) ∧ z.1 = nI m) := by
  have tp := h.co.2.2.2.2.2.2.2
  have tl := tp.2.1
  have cb := h.1.1.b
  unfold O_seal_232 F_seal_232
  rw [n_add, n_clamp (by omega)]
  have g0 : lyg S (a + 99) [m] 1 (rsA S 21 (a + 99 + 0) (nI (bg [m] 0))) := lyg.zero.step
  have R0 : rRp F H T (rsA S 21 (a + 99) (nI m)) (sL w (laB (wL w) (a + 99) [m])) := h.tape (g0.1.mono (by decide)) (g0.tp tp (isB_cons (show m < 256 by omega) isB_nil))
  clear g0
  generalize rsA S 21 (a + 99) (nI m) = S0 at R0 ⊢
  obtain ⟨l1, hl1⟩ : ∃ l1, l1 = laB (wL w) (a + 99) [m] := ⟨_, rfl⟩
  have ll : l1.length = (wL w).length := by rw [hl1, laB_len]
  rw [← hl1] at R0 ⊢
  obtain ⟨i1, i2⟩ := isHonest_ok (N := N) R0 (x := x)
  refine wp_and ((n_in (by omega)).2 (by omega)) (wp_and i1 ?_)
  rcases i2 with ⟨k, k1, k2, k3⟩ | ⟨k1, k2⟩
  rotate_left
  · rw [k2]
    refine wp_pos rfl ?_
    unfold O_seal_328 F_seal_328
    exact wp_fin trivial ⟨⟨l1, Or.inr ⟨k1, rfl⟩, R0⟩, rfl⟩
  rw [k3, k2]
  obtain ⟨d, d1, d2, d3⟩ : ∃ d, wY w k 9 0 = some d ∧ d.length = 32 ∧ isB d := by
    obtain ⟨hh, bh, k0, d, g1, g2, g3, g4, g5, g6, g7, g8, g9, g10, g11, g12, g13, g14, g15⟩ := h.k k k1
    exact ⟨d, g10, g11, g12⟩
  have tp0 := R0.co.2.2.2.2.2.2.2
  refine wp_neg (by decide) ?_
  refine wp_seq (Q := fun z : Nat × Int32 × Int32 × Int32 × rS => z = (0, nI a, nI k, nI m, z.2.2.2.2) ∧ lyg S0 (a + 3) d 32 z.2.2.2.2) ?_ ?_
  · refine wp_loop (K := 32) (fun j y => lyg S0 (a + 3) d j y) (fun q j y => OL_seal_254 N q (nI a) (nI k) (nI m) (nI j) y) (fun q j y => L_seal_254 N q (nI a) (nI k) (nI m) (nI j) y) (fun q j y hj hI ih => ?_) 0 N S0 (by omega) (by omega) lyg.zero
    unfold OL_seal_254 L_seal_254 OB_seal_254 B_seal_254
    by_cases e : j = 32
    · refine wp_pos (by rw [n_le' (by omega) (by omega)]; omega) ?_
      subst e
      exact wp_fin trivial ⟨rfl, hI⟩
    obtain ⟨d', l0, s1, s2⟩ := lastByte_ok (N := N) (S := y) (i := j) cb.2.1 k1 (R0.n.fr hI.1 (by decide)) (R0.c.fr hI.1 (by decide) (by decide) (by decide)) (R0.k.fr hI.1 (by decide)) (by omega)
    have l0' : wY w k 9 0 = some d' := l0
    rw [d1, Option.some.injEq] at l0'
    subst l0'
    rw [s2, n_add, n_add, n_clamp (by omega), n_add]
    exact wp_neg (by rw [n_le' (by omega) (by omega)]; omega) (wp_and s1 (wp_and ((n_in (by omega)).2 (by omega)) (ih _ hI.step (by omega))))
  rintro z ⟨z0, z1⟩
  rw [z0]
  generalize z.2.2.2.2 = S1 at z1 ⊢
  have R1 : rRp F H T S1 (sL w (laB l1 (a + 3) d)) := R0.tape (z1.1.mono (by decide)) (lyg.tp (by rw [d2]; exact z1) tp0 d3)
  show wp (O_seal_285 N (nI a) (nI k) (nI m) S1) (F_seal_285 N (nI a) (nI k) (nI m) S1) _
  unfold O_seal_285 F_seal_285
  refine wp_call (reckon_ok hN cb.1 cb.2.1 k1 R1.n R1.c R1.k) (fun q => ?_)
  obtain ⟨q1, q2, q3⟩ := q
  have R2 := R1.sf (q1.sf (by decide) (by decide) (by decide) (by decide))
  generalize f_reckon N S1 (nI k) = S2 at q1 q2 R2 ⊢
  unfold O_seal_290 F_seal_290
  refine wp_call (accountsRoot_ok q2 q3 R2.co.2.2.2.2.1 hN) (fun q => ?_)
  obtain ⟨r1, r2⟩ := q
  have R3 := R2.sf (r1.sf (by decide) (by decide) (by decide) (by decide))
  generalize f_accountsRoot N S2 = S3 at r1 r2 R3 ⊢
  have lw : wL (sL w (laB l1 (a + 3) d)) = laB l1 (a + 3) d := rfl
  refine wp_mono (seal_294 (a := a) (m := m) hN R3 r2 (rootP_B _) (rootP_len _) (by rw [lw, laB_len]; omega)) (fun y => ⟨⟨seH w k l1 a, Or.inl ⟨k, k1, rfl, rfl⟩, ?_⟩, y.2⟩)
  unfold seH
  rw [d1]
  exact y.1
theorem seal_194 {a m : Nat} {x : Int32} (hN : 1000 ≤ N) (h : rRp F H T S w) (hq : rQ S ps []) (hb : allB ps) (hm : m ≤ 64) (ha : a + 101 ≤ (wL w).length) : wp (O_seal_194 N (nI a) x (nI m) S) (F_seal_194 N (nI a) x (nI m) S) (fun z => (∃ L, seLy w H a x (laB (laB (wL w) (a + 67) (rootP ps)) (a + 99) [m]) L ∧ rRp F H T z.2 (sL w L)) ∧ z.1 = nI m) := by
  have tl := h.co.2.2.2.2.2.2.2.2.1
  unfold O_seal_194 F_seal_194
  refine wp_call (root_ps hN hq hb h.co.2.2.2.2.1) (fun q => ?_)
  obtain ⟨r1, r2⟩ := q
  have R1 := h.sf (r1.sf (by decide) (by decide) (by decide) (by decide))
  generalize f_root_ N S = S1 at r1 r2 R1 ⊢
  have tp1 := R1.co.2.2.2.2.2.2.2
  unfold O_seal_198 F_seal_198
  have rl := rootP_len ps
  refine wp_seq (Q := fun z : Nat × Int32 × Int32 × Int32 × rS => z = (0, nI a, x, nI m, z.2.2.2.2) ∧ lyg S1 (a + 67) (rootP ps) 32 z.2.2.2.2) ?_ ?_
  · refine wp_loop (K := 32) (fun j y => lyg S1 (a + 67) (rootP ps) j y) (fun q j y => OL_seal_201 N q (nI a) x (nI m) (nI j) y) (fun q j y => L_seal_201 N q (nI a) x (nI m) (nI j) y) (fun q j y hj hI ih => ?_) 0 N S1 (by omega) (by omega) lyg.zero
    unfold OL_seal_201 L_seal_201 OB_seal_201 B_seal_201
    by_cases e : j = 32
    · refine wp_pos (by rw [n_le' (by omega) (by omega)]; omega) ?_
      subst e
      exact wp_fin trivial ⟨rfl, hI⟩
    obtain ⟨s1, s2⟩ := rootByte_ok (N := N) (S := y) (r := rootP ps) (k := j) (fun k hk => by rw [hI.1.l 18 (by decide)]; exact r2 k hk) (by omega)
    have s2' : f_rootByte N y (nI j) = nI (bg (rootP ps) j) := s2
    rw [s2', n_add, n_add, n_clamp (by omega), n_add]
    exact wp_neg (by rw [n_le' (by omega) (by omega)]; omega) (wp_and s1 (wp_and ((n_in (by omega)).2 (by omega)) (ih _ hI.step (by omega))))
  rintro z ⟨z0, z1⟩
  rw [z0]
  generalize z.2.2.2.2 = S2 at z1 ⊢
  have R2 : rRp F H T S2 (sL w (laB (wL w) (a + 67) (rootP ps))) := R1.tape (z1.1.mono (by decide)) (lyg.tp (by rw [rl]; exact z1) tp1 (rootP_B _))
  have lw : wL (sL w (laB (wL w) (a + 67) (rootP ps))) = laB (wL w) (a + 67) (rootP ps) := rfl
  exact seal_232 hN R2 hm (by rw [lw, laB_len]; exact ha)
theorem seal_138 {a n p : Nat} {x : Int32} (hN : 1000 ≤ N) (h : rRp F H T S w) (hq : rQ S ps []) (hb : allB ps) (p1 : ps.length ≤ 2) (p2 : ps.flatten.length ≤ 142) (h1 : a + 101 ≤ p) (h2 : p ≤ n) (h3 : n ≤ (wL w).length) : wp (O_seal_138 N (nI a) (nI n) x (nI p) S) (F_seal_138 N (nI a) (nI n) x (nI p) S) (fun z => (∃ L, seLy w H a x (seAl (wL w) ps p n a) L ∧ rRp F H T z.2 (sL w L)) ∧ z.1 = nI (seM p n)) := by
  have tp := h.co.2.2.2.2.2.2.2
  have tl := tp.2.1
  have m1 : seM p n ≤ 64 ∧ p + 7 * seM p n ≤ n := by
    unfold seM
    split <;> omega
  suffices hs : wp (O_seal_162 N (nI a) x (nI p) (nI (seM p n)) S) (F_seal_162 N (nI a) x (nI p) (nI (seM p n)) S) (fun z => (∃ L, seLy w H a x (seAl (wL w) ps p n a) L ∧ rRp F H T z.2 (sL w L)) ∧ z.1 = nI (seM p n)) by
    unfold O_seal_138 F_seal_138
    rw [n_sub h2, n_div' (by omega) (by omega)]
    unfold seM at hs ⊢
    refine wp_ite (fun c => ?_) (fun c => ?_) <;> rw [n_le' (by omega) (by omega)] at c
    · rw [if_pos c] at hs ⊢
      exact hs
    · rw [if_neg c] at hs ⊢
      exact hs
  unfold seAl
  obtain ⟨m, hm⟩ : ∃ m, m = seM p n := ⟨_, rfl⟩
  rw [← hm] at m1 ⊢
  unfold O_seal_162 F_seal_162
  refine wp_seq (Q := fun z : Nat × Int32 × Int32 × Int32 × rS => z = (0, nI a, x, nI m, z.2.2.2.2) ∧ rfr [15, 16, 17] S z.2.2.2.2 ∧ rQ z.2.2.2.2 (ps ++ seQ (wL w) p m) [] ∧ allB (ps ++ seQ (wL w) p m)) ?_ ?_
  · refine wp_loop (K := m) (fun j y => rfr [15, 16, 17] S y ∧ rQ y (ps ++ seQ (wL w) p j) [] ∧ allB (ps ++ seQ (wL w) p j)) (fun q j y => OL_seal_167 N q (nI a) x (nI p) (nI m) (nI j) y) (fun q j y => L_seal_167 N q (nI a) x (nI p) (nI m) (nI j) y) (fun q j y hj hI ih => ?_) 0 N S (by omega) (by omega) ⟨rfr.refl, by rw [show seQ (wL w) p 0 = [] from rfl, List.append_nil]; exact hq, by rw [show seQ (wL w) p 0 = [] from rfl, List.append_nil]; exact hb⟩
    unfold OL_seal_167 L_seal_167 OB_seal_167 B_seal_167
    by_cases e : j = m
    · refine wp_pos (by rw [n_le' (by omega) (by omega)]; omega) ?_
      rw [e] at hI
      exact wp_fin trivial ⟨rfl, hI⟩
    have sq := seQ_flat (wL w) p j
    have sn := seQ_len (wL w) p j
    have ty := (h.sf (hI.1.sf (by decide) (by decide) (by decide) (by decide))).co.2.2.2.2.2.2.2
    rw [n_mul, n_add]
    refine wp_neg (by rw [n_le' (by omega) (by omega)]; omega) (wp_call (partOnTape_ok (a := p + 7 * j) (n := 7) ty hI.2.1 hN (by omega) (by rw [List.flatten_append, List.length_append]; omega) (by rw [List.length_append]; omega)) (fun q => ?_))
    unfold O_seal_188 F_seal_188
    rw [n_add]
    rw [List.append_assoc, ← seQ_succ] at q
    refine ih _ ⟨hI.1.trans q.1, q.2, ?_⟩ (by omega)
    rw [seQ_succ, ← List.append_assoc]
    exact hI.2.2.snoc (isB_sl tp.2.2.2 _ _)
  rintro z ⟨z0, z1, z2, z3⟩
  rw [z0]
  generalize z.2.2.2.2 = S1 at z1 z2 ⊢
  exact seal_194 hN (h.sf (z1.sf (by decide) (by decide) (by decide) (by decide))) z2 z3 m1.1 (by omega)
theorem seal_118 {a n : Nat} {x : Int32} (hN : 1000 ≤ N) (h : rRp F H T S w) (h1 : a + 101 ≤ n) (h3 : n ≤ (wL w).length) : wp (O_seal_118 N (nI a) (nI n) x S) (F_seal_118 N (nI a) (nI n) x S) (fun z => (∃ L, seLy w H a x (seAl (laB (wL w) (a + 100) [0]) [] (a + 101) n a) L ∧ rRp F H T z.2 (sL w L)) ∧ z.1 = nI (seM (a + 101) n)) := by
  have tl := h.co.2.2.2.2.2.2.2.2.1
  unfold O_seal_118 F_seal_118
  refine wp_call noParts_ok (fun q => ?_)
  have R1 := h.sf (q.1.sf (by decide) (by decide) (by decide) (by decide))
  have q2 := q.2
  generalize f_noParts N S = S1 at R1 q2 ⊢
  have tp1 := R1.co.2.2.2.2.2.2.2
  unfold O_seal_122 F_seal_122
  rw [n_add, n_clamp (by omega), n_add]
  have g0 : lyg S1 (a + 100) [0] 1 (rsA S1 21 (a + 100 + 0) (nI (bg [0] 0))) := lyg.zero.step
  have R2 : rRp F H T (rsA S1 21 (a + 100) (nI 0)) (sL w (laB (wL w) (a + 100) [0])) := R1.tape (g0.1.mono (by decide)) (g0.tp tp1 (isB_cons (by decide) isB_nil))
  have q3 : rQ (rsA S1 21 (a + 100) (nI 0)) [] [] := q2.fr g0.1 (by decide) (by decide) (by decide)
  clear g0
  generalize rsA S1 21 (a + 100) (nI 0) = S2 at R2 q3 ⊢
  have ll : (laB (wL w) (a + 100) [0]).length = (wL w).length := laB_len _ _ _
  generalize laB (wL w) (a + 100) [0] = l at R2 ll ⊢
  have lw : wL (sL w l) = l := rfl
  have := seal_138 (a := a) (n := n) (p := a + 101) (x := x) hN R2 q3 (fun p => by rw [show pg [] p = [] by simp [pg]]; exact isB_nil) (by decide) (by decide) (Nat.le_refl _) h1 (by rw [lw, ll]; exact h3)
  rw [lw] at this
  exact wp_and ((n_in (by omega)).2 (by omega)) this
def sePr (w : Wd) (S : rS) (a n c j p : Nat) (ps : List (List Nat)) (y : rS) : Prop := j ≤ 2 ∧ rfr [15, 16, 17] S y ∧ rQ y ps [] ∧ allB ps ∧ ps.length = j ∧ ps.flatten.length ≤ 71 * j ∧ a + 101 ≤ p ∧ p ≤ n ∧ evZ (wL w) n (a + 101) j = some (ps, p)
theorem seal_52 {a n c : Nat} {x : Int32} (hN : 1000 ≤ N) (h : rRp F H T S w) (hq : rQ S [] []) (h1 : a + 101 ≤ n) (h3 : n ≤ (wL w).length) (bc : c < 256) : wp (OL_seal_52 N N (nI a) (nI n) x (nI c) (nI (a + 101)) (nI 0) S) (L_seal_52 N N (nI a) (nI n) x (nI c) (nI (a + 101)) (nI 0) S) (fun z => ∃ (e p j : Nat) (ps : List (List Nat)) (y : rS), z = (e, nI a, nI n, x, nI c, nI p, y) ∧ sePr w S a n c j p ps y ∧ (2 < c ∨ j = c ∨ (j < c ∧ evZ (wL w) n (a + 101) (j + 1) = none))) := by
  have tp := h.co.2.2.2.2.2.2.2
  have tl := tp.2.1
  refine wp_loop (K := 2) (fun j (y : Nat × rS) => (j ≤ c ∨ 2 < c) ∧ ∃ ps, sePr w S a n c j y.1 ps y.2) (fun q j y => OL_seal_52 N q (nI a) (nI n) x (nI c) (nI y.1) (nI j) y.2) (fun q j y => L_seal_52 N q (nI a) (nI n) x (nI c) (nI y.1) (nI j) y.2) (fun q j y hj hI ih => ?_) 0 N (a + 101, S) (by omega) (by omega) ⟨Or.inl (by omega), [], (by omega), rfr.refl, hq, fun p => by rw [show pg [] p = [] by simp [pg]]; exact isB_nil, rfl, Nat.le_refl _, Nat.le_refl _, h1, rfl⟩
  obtain ⟨p, y⟩ := y
  obtain ⟨i0, ps, hp⟩ := hI
  have hp0 : sePr w S a n c j p ps y := hp
  obtain ⟨_, i1, i2, i3, i4, i5, i6, i7, i8⟩ := hp0
  show wp (OB_seal_52 N (OL_seal_52 N q) (nI a) (nI n) x (nI c) (nI p) (nI j) y) (B_seal_52 N (L_seal_52 N q) (nI a) (nI n) x (nI c) (nI p) (nI j) y) _
  unfold OB_seal_52 B_seal_52
  refine wp_ite (fun d => ?_) (fun d => ?_) <;> rw [n_le' (by omega) (by omega)] at d
  · exact wp_fin trivial ⟨1, p, j, ps, y, rfl, hp, by omega⟩
  refine wp_ite (fun d2 => ?_) (fun d2 => ?_) <;> rw [n_lt' (by omega) (by omega)] at d2
  · exact wp_fin trivial ⟨1, p, j, ps, y, rfl, hp, by omega⟩
  have ty := (h.sf (i1.sf (by decide) (by decide) (by decide) (by decide))).co.2.2.2.2.2.2.2
  obtain ⟨g1, g2⟩ := proofOnTape_q (N := N) (p := p) ty h3 (by omega)
  have g2' : f_proofOnTape N y (nI p) (nI n) = nI (evT (wL w) n p) := g2
  rw [g2']
  have le := evT_le (wL w) n p
  refine wp_and g1 (wp_ite (fun d3 => ?_) (fun d3 => ?_)) <;> rw [n_eq0 (by omega)] at d3
  · exact wp_fin trivial ⟨0, p, j, ps, y, rfl, hp, Or.inr (Or.inr ⟨(by omega), evZ_no i8 d3⟩)⟩
  refine wp_call (partOnTape_ok (a := p) (n := evT (wL w) n p) ty i2 hN (by omega) (by omega) (by omega)) (fun q => ?_)
  unfold O_seal_90 F_seal_90
  rw [n_add, n_add]
  refine ih (p + evT (wL w) n p, _) ⟨(by omega), _, (by omega), i1.trans q.1, q.2, i3.snoc (isB_sl tp.2.2.2 _ _), by rw [List.length_append, i4]; rfl, ?_, ?_, ?_, evZ_yes i8 d3⟩ (by omega)
  · rw [List.flatten_append, List.length_append]
    simp [sl_len]
    simp at i5
    omega
  · show a + 101 ≤ p + _
    omega
  · show p + _ ≤ n
    omega
theorem seal_49 {a n : Nat} {x : Int32} (hN : 1000 ≤ N) (h : rRp F H T S w) (hq : rQ S [] []) (h1 : a + 101 ≤ n) (h3 : n ≤ (wL w).length) : wp (O_seal_49 N (nI a) (nI n) x (nI (bg (wL w) (a + 100))) (nI (a + 101)) S) (F_seal_49 N (nI a) (nI n) x (nI (bg (wL w) (a + 100))) (nI (a + 101)) S) (fun z => (∃ L, seLy w H a x (seAl (seZ (wL w) a n).2.2 (seZ (wL w) a n).1 (seZ (wL w) a n).2.1 n a) L ∧ rRp F H T z.2 (sL w L)) ∧ z.1 = nI (seM (seZ (wL w) a n).2.1 n)) := by
  have tp := h.co.2.2.2.2.2.2.2
  have tl := tp.2.1
  have bc := tp.2.2.2 (a + 100)
  obtain ⟨c, hc⟩ : ∃ c, c = bg (wL w) (a + 100) := ⟨_, rfl⟩
  have non : (if c ≤ 2 then evZ (wL w) n (a + 101) c else none) = none → seZ (wL w) a n = ([], a + 101, laB (wL w) (a + 100) [0]) := fun e => by
    unfold seZ
    rw [← hc, e]
  rw [← hc] at bc ⊢
  unfold O_seal_49 F_seal_49
  refine wp_seq (seal_52 (x := x) hN h hq h1 h3 bc) ?_
  rintro z ⟨e, p, j, ps, y, rfl, z1, z10⟩
  obtain ⟨z0, z2, z3, z4, z5, z6, z7, z8, z9⟩ := z1
  have Ry := h.sf (z2.sf (by decide) (by decide) (by decide) (by decide))
  have same : wp (O_seal_103 N (nI a) (nI n) x (nI c) (nI p) y) (F_seal_103 N (nI a) (nI n) x (nI c) (nI p) y) (fun z => (∃ L, seLy w H a x (seAl (seZ (wL w) a n).2.2 (seZ (wL w) a n).1 (seZ (wL w) a n).2.1 n a) L ∧ rRp F H T z.2 (sL w L)) ∧ z.1 = nI (seM (seZ (wL w) a n).2.1 n)) := by
    unfold O_seal_103 F_seal_103
    refine wp_ite (fun d => ?_) (fun d => ?_) <;> rw [n_lt' (by omega) (by omega)] at d
    · rw [non (if_neg (by omega))]
      exact seal_118 hN Ry h1 h3
    rw [z3.1, z5]
    refine wp_ite (fun d2 => ?_) (fun d2 => ?_) <;> rw [n_le' (by omega) (by omega)] at d2
    · have ej : j = c := by omega
      have ez : seZ (wL w) a n = (ps, p, wL w) := by
        unfold seZ
        rw [← hc, if_pos (by omega), ← ej, z9]
      rw [ez]
      have y1 : ps.length ≤ 2 := by omega
      have y2 : ps.flatten.length ≤ 142 := by omega
      exact seal_138 hN Ry z3 z4 y1 y2 z7 z8 h3
    · rw [non ?_]
      · exact seal_118 hN Ry h1 h3
      rw [if_pos (by omega)]
      rcases z10 with u | u | u
      · omega
      · omega
      · have := evZ_none u.2 (c - (j + 1))
        rw [show j + 1 + (c - (j + 1)) = c by omega] at this
        exact this
  show wp (if e = 0 then O_seal_79 N (nI a) (nI n) x (nI c) (nI p) y else O_seal_103 N (nI a) (nI n) x (nI c) (nI p) y) (if e = 0 then F_seal_79 N (nI a) (nI n) x (nI c) (nI p) y else F_seal_103 N (nI a) (nI n) x (nI c) (nI p) y) _
  by_cases q : e = 0
  · rw [if_pos q, if_pos q]
    exact same
  · rw [if_neg q, if_neg q]
    exact same
theorem seal_ok {x y u : Int32} (hN : 1000 ≤ N) (h : rRp F H T S w) : wp (o_seal N S x y u) (f_seal N S x y u) (fun z => (∃ a n L, a + 101 ≤ n ∧ n ≤ (wL w).length ∧ x = nI a ∧ y = nI n ∧ seLy w H a u (seAl (seZ (wL w) a n).2.2 (seZ (wL w) a n).1 (seZ (wL w) a n).2.1 n a) L ∧ rRp F H T z.2 (sL w L) ∧ z.1 = nI (seM (seZ (wL w) a n).2.1 n)) ∨ ((¬ ∃ a n, a + 101 ≤ n ∧ n ≤ (wL w).length ∧ x = nI a ∧ y = nI n) ∧ rRp F H T z.2 w ∧ z.1 = -1)) := by
  have tp := h.co.2.2.2.2.2.2.2
  have tl := tp.2.1
  show wp (O_seal_0 N x y u S) (F_seal_0 N x y u S) _
  unfold O_seal_0 F_seal_0
  have no : (¬ ∃ a n, a + 101 ≤ n ∧ n ≤ (wL w).length ∧ x = nI a ∧ y = nI n) → wp (O_seal_26 N S) (F_seal_26 N S) (fun z => (∃ a n L, a + 101 ≤ n ∧ n ≤ (wL w).length ∧ x = nI a ∧ y = nI n ∧ seLy w H a u (seAl (seZ (wL w) a n).2.2 (seZ (wL w) a n).1 (seZ (wL w) a n).2.1 n a) L ∧ rRp F H T z.2 (sL w L) ∧ z.1 = nI (seM (seZ (wL w) a n).2.1 n)) ∨ ((¬ ∃ a n, a + 101 ≤ n ∧ n ≤ (wL w).length ∧ x = nI a ∧ y = nI n) ∧ rRp F H T z.2 w ∧ z.1 = -1)) := fun g => by
    unfold O_seal_26 F_seal_26
    exact wp_fin trivial (Or.inr ⟨g, h, rfl⟩)
  refine wp_ite (fun c => ?_) (fun c => ?_)
  · exact no (fun ⟨a, n, p1, p2, p3, p4⟩ => n_lt0 (show a < 2147483648 by omega) (by rw [← p3]; exact c))
  obtain ⟨a, a1, a2⟩ := i_nat c
  refine wp_ite (fun c2 => ?_) (fun c2 => ?_)
  · refine no (fun ⟨a', n, p1, p2, p3, p4⟩ => ?_)
    rw [p4, tp.1, n_lt' (by omega) (by omega)] at c2
    omega
  refine wp_ite (fun c3 => ?_) (fun c3 => ?_)
  · refine no (fun ⟨a', n, p1, p2, p3, p4⟩ => ?_)
    rw [p4, n_lt' (by omega) (by omega)] at c3
    omega
  obtain ⟨n, n1, n2⟩ := i_nat (x := y) (fun z => c3 (by
    rw [Int32.lt_iff_toInt_lt] at z ⊢
    exact Int.lt_trans z (by decide)))
  rw [n2, tp.1, n_lt' (by omega) (by omega)] at c2
  rw [n2, n_lt' (by omega) (by omega)] at c3
  have q : x ≤ y - nI 101 ↔ a + 101 ≤ n := by
    rw [a2, n2, n_sub (by omega), n_le' (by omega) (by omega)]
    omega
  refine wp_ite (fun d => ?_) (fun d => ?_) <;> rw [q] at d
  rotate_left
  · refine no (fun ⟨a', n', p1, p2, p3, p4⟩ => ?_)
    rw [a2, n_eq' a1 (by omega)] at p3
    rw [n2, n_eq' n1 (by omega)] at p4
    omega
  have b := tp.2.2.1 (a + 100) (by omega)
  rw [a2, n2, n_add, n_add, n_clamp (by omega), b]
  refine wp_and ((n_in (by omega)).2 (by omega)) (wp_call noParts_ok (fun q => ?_))
  have R1 := h.sf (q.1.sf (by decide) (by decide) (by decide) (by decide))
  refine wp_mono (seal_49 (x := u) hN R1 q.2 d (by omega)) (fun y => ?_)
  obtain ⟨⟨L, y1, y2⟩, y3⟩ := y
  exact Or.inl ⟨a, n, L, d, (by omega), rfl, rfl, y1, y2, y3⟩
end
end
