section
/-! THE CLASS'S SKY: a message is launched -/
theorem cP_at (s : cS) (a i : Nat) (x : Option Nat) (j : Nat) : cP (csP s a i x) a j = if j = i then x else cP s a j := by
  show up1 (cP s) a (va_up (cP s a) i x) a j = _
  unfold up1
  rw [if_pos rfl]
  unfold va_up
  rfl
theorem cP_other (s : cS) {a b : Nat} (i : Nat) (x : Option Nat) (h : b ≠ a) : cP (csP s a i x) b = cP s b := by
  show up1 (cP s) a (va_up (cP s a) i x) b = _
  unfold up1
  rw [if_neg h]
theorem cA_at (s : cS) (a i : Nat) (x : Int32) (j : Nat) : cA (csA s a i x) a j = if j = i then x else cA s a j := by
  rw [csA_row, cA_same]
  by_cases c : j = i
  · rw [c, upd_same, if_pos rfl]
  · rw [upd_other _ _ c, if_neg c]
theorem cA_ne (s : cS) {a b : Nat} (i : Nat) (x : Int32) (h : b ≠ a) : cA (csA s a i x) b = cA s b := by
  rw [csA_row, cA_other _ _ h]
/-- the state after a launch: the slot x, its place p in the ring -/
def cLau (s : cS) (q p x m : Nat) (n : Nat) (a b : Int32) : cS := csI (csP (csA (csA (csA (csI (csA s (q + 1) p (nI x)) 9 q (nI (n + 1))) (q + 3) x a) (q + 4) x b) (q + 5) x (cI s 10 q)) (q + 6) x (some m)) 3 m (cI s 3 m + nI 1)
section
variable {N g H T q : Nat} {s : cS} {fl : List Fl} {ld t : Nat → Nat}
theorem launch_c {m : Nat} {a b : Int32} (h : cSkT s q fl ld t) (hl : fl.length < 1000) (hm : m ≠ q) : p_X9_launch N g H T s q a b (some m) ∧ ∃ f, f < 1024 ∧ cI s 6 q = nI f ∧ k_X9_launch N g H T s q a b (some m) = cLau s q ((f + fl.length) % 1024) (t fl.length) m fl.length a b := by
  obtain ⟨h1, h2, ⟨f, f1, f2, f3⟩, h4, h5, h6, h7⟩ := h
  show wp (KO_X9_launch_0 N g H T q a b (some m) s) (KF_X9_launch_0 N g H T q a b (some m) s) (fun z => ∃ f, f < 1024 ∧ cI s 6 q = nI f ∧ z = cLau s q ((f + fl.length) % 1024) (t fl.length) m fl.length a b)
  unfold KO_X9_launch_0 KF_X9_launch_0
  have t1 := h5 fl.length hl
  have e9 : ∀ (i : Nat) (x : Int32), cI (csA s (q + 1) i x) 9 q = nI fl.length := fun i x => h1
  rw [e9, h1, f2, n_add, n_add, n_1023, n_clamp (by omega), n_clamp (by omega), h4 fl.length (Nat.le_refl _) hl]
  refine wp_pos (by rw [n_lt' (by omega) (by omega)]; omega) (wp_and ((n_in (by omega)).2 (by omega)) (wp_and ((n_in (by omega)).2 (by omega)) ?_))
  unfold KO_X9_launch_52 KF_X9_launch_52 KO_X9_launch_68 KF_X9_launch_68 KO_X9_launch_87 KF_X9_launch_87
  rw [n_clamp (by omega)]
  refine wp_and ((n_in (by omega)).2 (by omega)) (wp_and ((n_in (by omega)).2 (by omega)) (wp_and ((n_in (by omega)).2 (by omega)) (wp_and ((n_in (by omega)).2 (by omega)) (wp_fin ⟨by simp, trivial⟩ ⟨f, f1, rfl, ?_⟩))))
  unfold cLau
  have e10 : ∀ (x y : Int32), cI (csA (csA (csI (csA s (q + 1) ((f + fl.length) % 1024) (nI (t fl.length))) 9 q (nI (fl.length + 1))) (q + 3) (t fl.length) x) (q + 4) (t fl.length) y) 10 q = cI s 10 q := fun x y => by
    show cI (csI (csA s (q + 1) ((f + fl.length) % 1024) (nI (t fl.length))) 9 q (nI (fl.length + 1))) 10 q = _
    rw [cI_other _ _ (Or.inl (by decide))]
    rfl
  rw [e10]
  show csI _ 3 m (cI (csP _ (q + 6) _ _) 3 m + nI 1) = _
  have e3 : ∀ (x y z : Int32), cI (csP (csA (csA (csA (csI (csA s (q + 1) ((f + fl.length) % 1024) (nI (t fl.length))) 9 q (nI (fl.length + 1))) (q + 3) (t fl.length) x) (q + 4) (t fl.length) y) (q + 5) (t fl.length) z) (q + 6) (t fl.length) (some m)) 3 m = cI s 3 m := fun x y z => by
    show cI (csI (csA s (q + 1) ((f + fl.length) % 1024) (nI (t fl.length))) 9 q (nI (fl.length + 1))) 3 m = _
    rw [cI_other _ _ (Or.inl (by decide))]
    rfl
  rw [e3]
theorem cLau_f {p x m n : Nat} {a b : Int32} : (cI (cLau s q p x m n a b) 9 q = nI (n + 1)) ∧ cI (cLau s q p x m n a b) 6 q = cI s 6 q ∧ (∀ j, cA (cLau s q p x m n a b) (q + 1) j = if j = p then nI x else cA s (q + 1) j) ∧ cA (cLau s q p x m n a b) (q + 2) = cA s (q + 2) ∧ (∀ j, cA (cLau s q p x m n a b) (q + 3) j = if j = x then a else cA s (q + 3) j) ∧ (∀ j, cA (cLau s q p x m n a b) (q + 4) j = if j = x then b else cA s (q + 4) j) ∧ (∀ j, cA (cLau s q p x m n a b) (q + 5) j = if j = x then cI s 10 q else cA s (q + 5) j) ∧ ∀ j, cP (cLau s q p x m n a b) (q + 6) j = if j = x then some m else cP s (q + 6) j := by
  refine ⟨?_, ?_, fun j => ?_, ?_, fun j => ?_, fun j => ?_, fun j => ?_, fun j => ?_⟩
  · unfold cLau
    rw [cI_other _ _ (Or.inl (by decide))]
    show cI (csI (csA s (q + 1) p (nI x)) 9 q (nI (n + 1))) 9 q = _
    rw [cI_same]
  · unfold cLau
    rw [cI_other _ _ (Or.inl (by decide))]
    show cI (csI (csA s (q + 1) p (nI x)) 9 q (nI (n + 1))) 6 q = _
    rw [cI_other _ _ (Or.inl (by decide))]
    rfl
  · show cA (csA (csA (csA (csI (csA s (q + 1) p (nI x)) 9 q (nI (n + 1))) (q + 3) x a) (q + 4) x b) (q + 5) x (cI s 10 q)) (q + 1) j = _
    rw [cA_ne _ _ _ (by omega), cA_ne _ _ _ (by omega), cA_ne _ _ _ (by omega), cA_I, cA_at]
  · show cA (csA (csA (csA (csI (csA s (q + 1) p (nI x)) 9 q (nI (n + 1))) (q + 3) x a) (q + 4) x b) (q + 5) x (cI s 10 q)) (q + 2) = _
    rw [cA_ne _ _ _ (by omega), cA_ne _ _ _ (by omega), cA_ne _ _ _ (by omega), cA_I, cA_ne _ _ _ (by omega)]
  · show cA (csA (csA (csA (csI (csA s (q + 1) p (nI x)) 9 q (nI (n + 1))) (q + 3) x a) (q + 4) x b) (q + 5) x (cI s 10 q)) (q + 3) j = _
    rw [cA_ne _ _ _ (by omega), cA_ne _ _ _ (by omega), cA_at, cA_I, cA_ne _ _ _ (by omega)]
  · show cA (csA (csA (csA (csI (csA s (q + 1) p (nI x)) 9 q (nI (n + 1))) (q + 3) x a) (q + 4) x b) (q + 5) x (cI s 10 q)) (q + 4) j = _
    rw [cA_ne _ _ _ (by omega), cA_at, cA_ne _ _ _ (by omega), cA_I, cA_ne _ _ _ (by omega)]
  · show cA (csA (csA (csA (csI (csA s (q + 1) p (nI x)) 9 q (nI (n + 1))) (q + 3) x a) (q + 4) x b) (q + 5) x (cI s 10 q)) (q + 5) j = _
    rw [cA_at, cA_ne _ _ _ (by omega), cA_ne _ _ _ (by omega), cA_I, cA_ne _ _ _ (by omega)]
  · show cP (csP (csA (csA (csA (csI (csA s (q + 1) p (nI x)) 9 q (nI (n + 1))) (q + 3) x a) (q + 4) x b) (q + 5) x (cI s 10 q)) (q + 6) x (some m)) (q + 6) j = _
    rw [cP_at]
    rfl
theorem launch_sk {m a b tm : Nat} {y : List Nat} (h : cSkT s q fl ld t) (hl : fl.length < 1000) (hm : m ≠ q) (ht : cI s 10 q = nI tm) : cSkT (k_X9_launch N g H T s q (nI a) (nI b) (some m)) q (fl ++ [(a, b, tm, y)]) (fun k => if k = fl.length then m else ld k) t := by
  obtain ⟨_, f, f1, f2, e⟩ := launch_c (N := N) (g := g) (H := H) (T := T) (a := nI a) (b := nI b) h hl hm
  obtain ⟨h1, h2, ⟨f', g1, g2, g3⟩, h4, h5, h6, h7⟩ := h
  have ff : f = f' := by
    rw [f2, n_eq' (by omega) (by omega)] at g2
    exact g2
  rw [e]
  obtain ⟨u1, u2, u3, u4, u5, u6, u7, u8⟩ := cLau_f (s := s) (q := q) (p := (f + fl.length) % 1024) (x := t fl.length) (m := m) (n := fl.length) (a := nI a) (b := nI b)
  generalize cLau s q ((f + fl.length) % 1024) (t fl.length) m fl.length (nI a) (nI b) = s' at u1 u2 u3 u4 u5 u6 u7 u8 ⊢
  have ll : (fl ++ [(a, b, tm, y)]).length = fl.length + 1 := by simp
  have gt : ∀ k, k < fl.length → fg (fl ++ [(a, b, tm, y)]) k = fg fl k := fun k hk => by
    unfold fg
    rw [List.getD_eq_getElem?_getD, List.getD_eq_getElem?_getD, List.getElem?_append_left hk]
  have gl : fg (fl ++ [(a, b, tm, y)]) fl.length = (a, b, tm, y) := by
    unfold fg
    rw [List.getD_eq_getElem?_getD, List.getElem?_append_right (Nat.le_refl _), Nat.sub_self]
    rfl
  unfold cSkT
  rw [ll]
  refine ⟨u1, (by omega), ⟨f, f1, by rw [u2]; exact f2, fun k hk => ?_⟩, fun j hj hj2 => by rw [u4]; exact h4 j (by omega) hj2, h5, h6, fun k hk => ?_⟩
  · rw [u3]
    by_cases c : k = fl.length
    · rw [c, if_pos rfl]
    · rw [if_neg (by omega), ff]
      exact g3 k (by omega)
  · rw [u5, u6, u7, u8, ht]
    by_cases c : k = fl.length
    · rw [c, gl, if_pos rfl, if_pos rfl, if_pos rfl, if_pos rfl]
      refine ⟨rfl, rfl, rfl, ?_⟩
      show some m = some (if fl.length = fl.length then m else ld fl.length)
      rw [if_pos rfl]
    · have hk' : k < fl.length := by omega
      have ne : ¬ t k = t fl.length := fun z => c (h6 k fl.length (by omega) hl z)
      rw [gt k hk', if_neg ne, if_neg ne, if_neg ne, if_neg ne]
      show _ ∧ _ ∧ _ ∧ _ = some (if k = fl.length then m else ld k)
      rw [if_neg c]
      exact h7 k hk'
end
end
