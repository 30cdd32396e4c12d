section
/-! THE CLASS'S LOG: sectors -/
section
variable {F N g H T n : Nat} {s s' : cS} {ct : Nat → List Nat} {hd : List Nat} {w : Wd} {pe : Nat → Int} {v v' : Nat → Int} {y : Nat → Nat → Option (List Nat)} {p : List (List Nat)} {x x' : Nat → Nat → Nat} {pn : Int} {o : Option (List Nat)}
theorem vB_eq (h : ∀ k, 32 ≤ k → k < 80 → v' k = v k) : vB v' = vB v := funext fun i => by
  unfold vB
  by_cases c : i < 48
  · rw [if_pos c, if_pos c, h _ (by omega) (by omega)]
  · rw [if_neg c, if_neg c]
theorem vaL_eq {b : List Nat} (h1 : v' 1 = v 1) (hB : vB v' = vB v) : vaL v' o b = vaL v o b := by
  unfold vaL
  rw [h1, hB]
theorem juV_eq {b : List Nat} {x0 : Int32} (h1 : v' 1 = v 1) (hB : vB v' = vB v) : juV v' o b x0 = juV v o b x0 := by
  have e : v' 32 = v 32 := congrFun hB 0
  unfold juV
  rw [e, vaL_eq h1 hB]
theorem qH.vv {b T : Nat} {z : Nat → Nat → Option (List Nat)} (h : qH s ct b T v o z) (h1 : v' 1 = v 1) (hB : vB v' = vB v) : qH s ct b T v' o z := by
  refine ⟨h.1, h.2.1, fun i hi => ?_, h.2.2.2⟩
  rcases h.2.2.1 i hi with a | ⟨m, m1, m2, m3⟩
  · exact Or.inl a
  · exact Or.inr ⟨m, m1, by rw [h1]; exact m2, by rw [juV_eq h1 hB]; exact m3⟩
theorem qD.vv {b T : Nat} {d : Nat → Option (List Nat)} (h : qD s ct b T v o d) (h1 : v' 1 = v 1) (hB : vB v' = vB v) : qD s ct b T v' o d := ⟨h.1, fun k m hk hm => by rw [juV_eq h1 hB]; exact h.2.1 k m hk hm, h.2.2⟩
theorem owZ.vv {z : Nat → Nat → Option (List Nat)} (h : owZ T n v y z) (h0 : v' 0 = v 0) (h1 : v' 1 = v 1) (h17 : v' 17 = v 17) : owZ T n v' y z := by
  unfold owZ owH
  rw [h0, h1, h17]
  exact h
/-- the log of a node changes, nothing else of it -/
theorem CN.up (h : CN g H T s ct n v y p x pn) (fI : ∀ k o, o < 24 → o ≠ 10 → o ≠ 1 → o ≠ 4 → cI s' k (nd g n + o) = cI s k (nd g n + o)) (fR : ∀ k, k = 14 ∨ k = 15 → cR s' k (nd g n) = cR s k (nd g n)) (fA : ∀ o, o < 24 → o ≠ 10 → o ≠ 3 → o ≠ 4 → o ≠ 1 → cA s' (nd g n + o) = cA s (nd g n + o)) (fP : ∀ o, o < 24 → o ≠ 10 → o ≠ 2 → cP s' (nd g n + o) = cP s (nd g n + o)) (fJ : ∀ o, o < 24 → o ≠ 10 → cJ s' (nd g n + o) = cJ s (nd g n + o)) (hv : ∀ k, k < 12 ∨ k = 17 ∨ (32 ≤ k ∧ k < 80) → v' k = v k) (hL : qL (cI s') (nd g n) v') (hX : qX g H s' (nd g n) v' x') (hC : qC (cA s (nd g n + 5)) v' x' (y 7)) (hZ : qZ (cA s' (nd g n + 4))) : CN g H T s' ct n v' y p x' pn := by
  obtain ⟨c1, c2, c3, c4, c5, c6, ⟨z, c7, c7'⟩, c8, c9, c10, c11, c12, c13, c14⟩ := h
  have i0 : ∀ k, cI s' k (nd g n) = cI s k (nd g n) := fun k => fI k 0 (by decide) (by decide) (by decide) (by decide)
  have hB := vB_eq (v := v) (v' := v') (fun k a b => hv k (by omega))
  have e1 := hv 1 (by omega)
  refine ⟨?_, ?_, hL, hX, ?_, ?_, ⟨z, ?_, c7'.vv (hv 0 (by omega)) e1 (hv 17 (by omega))⟩, ?_, ?_, ?_, ?_, ?_, ?_, hZ⟩
  · unfold qN beN
    rw [i0, i0, i0, i0, i0, i0, i0, i0, i0, i0, hv 0 (by omega), hv 1 (by omega), hv 2 (by omega), hv 3 (by omega), hv 4 (by omega), hv 5 (by omega), hv 6 (by omega), hv 7 (by omega), hv 8 (by omega), hv 17 (by omega)]
    exact c1
  · rw [fA 12 (by decide) (by decide) (by decide) (by decide) (by decide)]
    intro t ht
    rw [hv (9 + t) (by omega)]
    exact c2 t ht
  · rw [fA 5 (by decide) (by decide) (by decide) (by decide) (by decide)]
    exact hC
  · unfold qB bkC rtC
    have a7 : cA s' (nd g n + 6 + 1) = cA s (nd g n + 6 + 1) := fA 7 (by decide) (by decide) (by decide) (by decide) (by decide)
    have a8 : cA s' (nd g n + 6 + 2) = cA s (nd g n + 6 + 2) := fA 8 (by decide) (by decide) (by decide) (by decide) (by decide)
    have a9 : cA s' (nd g n + 6 + 3) = cA s (nd g n + 6 + 3) := fA 9 (by decide) (by decide) (by decide) (by decide) (by decide)
    rw [hB, a7, a8, a9, fA 11 (by decide) (by decide) (by decide) (by decide) (by decide), fI 2 6 (by decide) (by decide) (by decide) (by decide), fI 5 6 (by decide) (by decide) (by decide) (by decide)]
    exact c6
  · have q := c7.vv (v' := v') e1 hB
    unfold qH at q ⊢
    rw [fP 15 (by decide) (by decide) (by decide), fP 19 (by decide) (by decide) (by decide), fA 16 (by decide) (by decide) (by decide) (by decide) (by decide), fA 17 (by decide) (by decide) (by decide) (by decide) (by decide)]
    exact q
  · have q := c8.vv (v' := v') e1 hB
    unfold qD at q ⊢
    rw [fP 20 (by decide) (by decide) (by decide), fA 21 (by decide) (by decide) (by decide) (by decide) (by decide), fI 11 14 (by decide) (by decide) (by decide) (by decide)]
    exact q
  · unfold qS_
    rw [fP 22 (by decide) (by decide) (by decide), fP 23 (by decide) (by decide) (by decide), fI 13 14 (by decide) (by decide) (by decide) (by decide)]
    exact c9
  · unfold qP
    rw [fJ 18 (by decide) (by decide), fI 12 14 (by decide) (by decide) (by decide) (by decide)]
    exact c10
  · unfold qK
    rw [fR 14 (Or.inl rfl), fR 15 (Or.inr rfl)]
    refine ⟨c11.1, c11.2.1, fun k a hk ha => ?_⟩
    rw [fR k hk] at ha
    exact c11.2.2 k a hk ha
  · unfold qA
    rw [fP 13 (by decide) (by decide) (by decide), e1]
    exact c12
  · rw [fI 1 14 (by decide) (by decide) (by decide) (by decide)]
    exact c13
theorem CR.node (h : CR F g H T s ct hd w pe) (hn : n < H) : CN g H T s ct n (wN w n) (wY w n) (wP w n) (wX w n) (pe n) := h.2.2.2.2.2.2.2.2.2.2 n hn
theorem CR.kin (h : CR F g H T s ct hd w pe) : kIn g H s := h.2.2.2.2.2.2.2.2.2.1
/-- a sector's row is made -/
theorem new_C {q : Nat} (h : CR F g H T s ct hd w pe) (hn : n < H) (hq : q < 284) (e : cP s (nd g n + 2) q = none) : CR F g H T (csP (csNew s 20 512) (nd g n + 2) q (some (cn s))) ct hd w pe := by
  have hc := h.node hn
  have hi := h.kin
  have all := fun m hm => h.node (n := m) hm
  obtain ⟨h1, h2, h3, h4, h5, h6⟩ := h
  have lt : ∀ m o, m < H → o < 24 → nd g m + o < cn s := fun m o hm ho => by unfold nd at *; omega
  have k0 : ∀ b, cn s ≤ b → cK s b = 0 := h2.2.2.2.2.2.2.2.2.2.1
  have k26 : cK s (nd g n + 2) = 26 := (h2.2.1 3 0 (nd g n + 1) (o52 (isO5 hn)) (by omega) _ rfl).2.1
  have k26' : cK (csNew s 20 512) (nd g n + 2) = 26 := by
    rw [new_K, if_neg (by have := lt n 2 hn (by decide); omega)]
    exact k26
  have st : St 0 g H T (csP (csNew s 20 512) (nd g n + 2) q (some (cn s))) := (h2.new (by decide)).P26 k26' (tK_some (by rw [new_K, if_pos rfl]))
  have kK : ∀ b, cK (csP (csNew s 20 512) (nd g n + 2) q (some (cn s))) b = if b = cn s then 20 else cK s b := fun _ => rfl
  have lL : ∀ b, cL (csP (csNew s 20 512) (nd g n + 2) q (some (cn s))) b = if b = cn s then 512 else cL s b := fun _ => rfl
  have iI_ : ∀ k b, b ≠ cn s → cI (csP (csNew s 20 512) (nd g n + 2) q (some (cn s))) k b = cI s k b := fun k b hb => by
    show up1 (cI s k) (cn s) 0 b = _
    unfold up1
    rw [if_neg hb]
  have rR : ∀ k b, b ≠ cn s → cR (csP (csNew s 20 512) (nd g n + 2) q (some (cn s))) k b = cR s k b := fun k b hb => new_R s 20 512 k b hb
  have aA : ∀ b, cA (csP (csNew s 20 512) (nd g n + 2) q (some (cn s))) b = if b = cn s then (fun _ => 0) else cA s b := fun b => rfl
  have jJ : ∀ b, b ≠ cn s → cJ (csP (csNew s 20 512) (nd g n + 2) q (some (cn s))) b = cJ s b := fun b hb => by
    show up1 (cJ s) (cn s) (fun _ => 0) b = _
    unfold up1
    rw [if_neg hb]
  have pO : ∀ b, b ≠ cn s → b ≠ nd g n + 2 → cP (csP (csNew s 20 512) (nd g n + 2) q (some (cn s))) b = cP s b := fun b hb hb2 => by
    rw [cP_other _ _ _ hb2, new_P, if_neg hb]
  have pA : ∀ j, cP (csP (csNew s 20 512) (nd g n + 2) q (some (cn s))) (nd g n + 2) j = if j = q then some (cn s) else cP s (nd g n + 2) j := fun j => by
    have e2 : cP (csNew s 20 512) (nd g n + 2) = cP s (nd g n + 2) := by rw [new_P, if_neg (by have := lt n 2 hn (by decide); omega)]
    rw [cP_at, e2]
  have nn : cn (csP (csNew s 20 512) (nd g n + 2) q (some (cn s))) = cn s + 1 := rfl
  have nk : ck (csP (csNew s 20 512) (nd g n + 2) q (some (cn s))) = ck s + 512 := rfl
  generalize csP (csNew s 20 512) (nd g n + 2) q (some (cn s)) = s' at st kK lL iI_ rR aA jJ pO pA nn nk ⊢
  have l0 : ∀ a, a < nd g H → a ≠ cn s := fun a ha => by omega
  have K5 : ∀ a, cK s' a = 5 ↔ cK s a = 5 := fun a => by
    rw [kK]
    by_cases c : a = cn s
    · rw [if_pos c, c, k0 _ (Nat.le_refl _)]
      decide
    · rw [if_neg c]
  have m5 : ∀ a, cK s a = 5 → a + 2 < cn s := fun a ha => (h2.ms ha).2.2.2
  have e2 : ∀ m, m < H → m ≠ n → cP s' (nd g m + 2) = cP s (nd g m + 2) := fun m hm c => pO _ (by have := lt m 2 hm (by decide); omega) (by unfold nd; omega)
  have aS : ∀ b, b ≠ cn s → cA s' b = cA s b := fun b hb => by rw [aA, if_neg hb]
  have HPs : HP g H T s' ct hd := by
    refine h4.fr K5 (fun a ha => by rw [lL, if_neg (by have := m5 a ha; omega)]) (fun a ha => iI_ 3 a (by have := m5 a ha; omega)) (fun a ha => rR 6 a (by have := m5 a ha; omega)) (fun k _ => rR k _ (l0 _ (by unfold nd; omega))) (fun b => ?_) (fun b hb hm => ?_) ?_
    · unfold us
      rw [cnA_fr (s := s) (s' := s') (pO _ (l0 _ (by unfold nd; omega)) (by unfold nd; omega)) (fun m e hm he => pO _ (by have := plO_b e; have := lt m (plO e) hm (by omega); omega) (by have := plO_b e; unfold nd; omega)) (fun m k hm _ => rR k _ (by have := lt m 0 hm (by decide); omega))]
    · have := m5 b hm.1.1
      exact hm.fr (by rw [kK, if_neg (by omega)]) (by rw [lL, if_neg (by omega)]) (iI_ 2 b (by omega)) (iI_ 4 b (by omega)) (iI_ 5 b (by omega)) (jJ _ (by omega)) (aS _ (by omega))
    · have sp := h4.2.2.2.2
      refine ⟨fun m e i b x1 x2 x3 x4 => ?_, fun m k b x1 x2 x3 => ?_⟩
      · rw [pO _ (by have := plO_b e; have := lt m (plO e) x1 (by omega); omega) (by have := plO_b e; unfold nd; omega)] at x4
        have kb := h4.k (a := b) (by have := cnA_hr (g := g) (H := H) (T := T) x1 x2 x3 x4; unfold us; omega)
        have := m5 b kb
        rw [lL, if_neg (by omega), iI_ 4 b (by omega)]
        exact sp.1 m e i b x1 x2 x3 x4
      · rw [rR k _ (by have := lt m 0 x1 (by decide); omega)] at x3
        have kb := h4.k (a := b) (by have := cnA_hf (g := g) (H := H) (T := T) x1 x2 x3; unfold us; omega)
        have := m5 b kb
        rw [iI_ 4 b (by omega)]
        exact sp.2 m k b x1 x2 x3
  have sR : ∀ m i r, m < H → i < 284 → cP s (nd g m + 2) i = some r → seR g H s r (wX w m i) := fun m i r hm hi' hr => ((all m hm).2.2.2.1 i hi').2.2.2 r hr
  refine ⟨h1, st, by rw [nn]; omega, HPs, ?_, h6.onx hn ?_ (fun m hm c => ?_) (fun _ _ => ⟨rfl, rfl, rfl, rfl⟩) rfl rfl rfl (fun _ _ => rfl) ?_ ?_⟩
  · obtain ⟨r1, r2, r3, r4⟩ := h5
    have eM : ∀ L, nM s' L = nM s L := fun L => by
      unfold nM
      rw [nn]
      have t0 : (if cK s' (cn s) = 5 ∧ cL s' (cn s + 2) = L then 1 else 0) = 0 := if_neg (fun z => by
        have := z.1
        rw [kK, if_pos rfl] at this
        exact absurd this (by decide))
      show smN (fun a => if cK s' a = 5 ∧ cL s' (a + 2) = L then 1 else 0) (cn s) + (if cK s' (cn s) = 5 ∧ cL s' (cn s + 2) = L then 1 else 0) = _
      rw [t0, Nat.add_zero]
      refine sm_eq (fun b hb => ?_)
      by_cases c : cK s b = 5
      · have := m5 b c
        have e1 : cL s' (b + 2) = cL s (b + 2) := by rw [lL, if_neg (by omega)]
        have e3 : cK s' b = cK s b := by rw [kK, if_neg (by omega)]
        rw [e1, e3]
      · rw [if_neg (fun z => c ((K5 b).1 z.1)), if_neg (fun z => c z.1)]
    have eS : nSe g H s' = nSe g H s + 1 := by
      unfold nSe
      have a1 := sm_one (f := fun m => smN (fun i => if cP s (nd g m + 2) i = none then 0 else 1) 284) (f' := fun m => smN (fun i => if cP s' (nd g m + 2) i = none then 0 else 1) 284) hn (fun m hm c => by
        show smN (fun i => if cP s' (nd g m + 2) i = none then 0 else 1) 284 = _
        rw [e2 m hm c])
      have a2 := sm_one (f := fun i => if cP s (nd g n + 2) i = none then 0 else 1) (f' := fun i => if cP s' (nd g n + 2) i = none then 0 else 1) hq (fun j _ c => by
        show (if cP s' (nd g n + 2) j = none then 0 else 1) = _
        rw [pA, if_neg c])
      have a3 : (if cP s (nd g n + 2) q = none then 0 else 1) = 0 := if_pos e
      have a4 : (if cP s' (nd g n + 2) q = none then 0 else 1) = 1 := if_neg (by rw [pA, if_pos rfl]; exact someN)
      have a1' : smN (fun m => smN (fun i => if cP s' (nd g m + 2) i = none then 0 else 1) 284) H + smN (fun i => if cP s (nd g n + 2) i = none then 0 else 1) 284 = smN (fun m => smN (fun i => if cP s (nd g m + 2) i = none then 0 else 1) 284) H + smN (fun i => if cP s' (nd g n + 2) i = none then 0 else 1) 284 := a1
      have a2' : smN (fun i => if cP s' (nd g n + 2) i = none then 0 else 1) 284 + (if cP s (nd g n + 2) q = none then 0 else 1) = smN (fun i => if cP s (nd g n + 2) i = none then 0 else 1) 284 + (if cP s' (nd g n + 2) q = none then 0 else 1) := a2
      rw [a3, a4] at a2'
      omega
    unfold RM
    rw [eM, eM, eS, nn, nk]
    omega
  · refine ⟨by rw [nn]; omega, fun a ha => ⟨by rw [kK, if_neg (by omega)], by rw [lL, if_neg (by omega)]⟩, fun a ha hp => ⟨fun k => iI_ k a (l0 a ha), fun k => rR k a (l0 a ha), aS a (l0 a ha), jJ a (l0 a ha), pO a (l0 a ha) (fun z => hp (by unfold ndP; omega))⟩⟩
  · have lm : ∀ o, o < 24 → nd g m + o ≠ cn s := fun o ho => by have := lt m o hm ho; omega
    exact ⟨by rw [nn]; omega, fun a ha => ⟨by rw [kK, if_neg (by omega)], by rw [lL, if_neg (by omega)]⟩, fun k o ho _ => iI_ k _ (lm o ho), fun k _ => rR k _ (lm 0 (by decide)), fun o ho _ => aS _ (lm o ho), fun o ho _ => ⟨jJ _ (lm o ho), pO _ (lm o ho) (by unfold nd; omega)⟩, fun i r _ _ _ hr _ _ => aS r (by omega)⟩
  · intro m i m' i' r b1 b2 b3 b4 b5 b6
    have cell : ∀ m i r, m < H → i < 284 → cP s' (nd g m + 2) i = some r → (m = n ∧ i = q ∧ r = cn s) ∨ (cP s (nd g m + 2) i = some r ∧ r < cn s) := fun m i r hm hi' hr => by
      by_cases c : m = n
      · subst c
        rw [pA] at hr
        by_cases d : i = q
        · rw [if_pos d] at hr
          cases hr
          exact Or.inl ⟨rfl, d, rfl⟩
        · rw [if_neg d] at hr
          exact Or.inr ⟨hr, (sR m i r hm hi' hr).2.1⟩
      · rw [e2 m hm c] at hr
        exact Or.inr ⟨hr, (sR m i r hm hi' hr).2.1⟩
    rcases cell m i r b1 b3 b5 with ⟨c1, c2, c3⟩ | ⟨c1, c2⟩ <;> rcases cell m' i' r b2 b4 b6 with ⟨d1, d2, d3⟩ | ⟨d1, d2⟩
    · exact ⟨c1.trans d1.symm, c2.trans d2.symm⟩
    · omega
    · omega
    · exact hi m i m' i' r b1 b2 b3 b4 c1 d1
  · have ln : ∀ o, o < 24 → nd g n + o ≠ cn s := fun o ho => by have := lt n o hn ho; omega
    refine hc.up (fun k o ho _ _ _ => iI_ k _ (ln o ho)) (fun k _ => rR k _ (ln 0 (by decide))) (fun o ho _ _ _ _ => aS _ (ln o ho)) (fun o ho _ h2 => pO _ (ln o ho) (by omega)) (fun o ho _ => jJ _ (ln o ho)) (fun _ _ => rfl) ?_ ?_ hc.2.2.2.2.1 ?_
    · unfold qL
      rw [iI_ 5 _ (ln 1 (by decide)), iI_ 6 _ (ln 1 (by decide)), iI_ 7 _ (ln 1 (by decide)), iI_ 8 _ (ln 1 (by decide)), iI_ 9 _ (ln 1 (by decide))]
      exact hc.2.2.1
    · intro i hi'
      obtain ⟨x1, x2, x3, x4⟩ := hc.2.2.2.1 i hi'
      rw [aS _ (ln 3 (by decide)), pA]
      by_cases c : i = q
      · subst c
        rw [if_pos rfl]
        obtain ⟨z1, z2⟩ := x3 e
        refine ⟨x1, x2, fun z => (by cases z), fun r hr => ?_⟩
        cases hr
        refine ⟨h3, by rw [nn]; omega, by rw [kK, if_pos rfl], by rw [lL, if_pos rfl], fun z => ?_, fun j hj => ?_⟩
        · have := (K5 _).1 z
          have := m5 _ this
          have g2 : 2 ≤ cn s := by unfold nd at h3; omega
          omega
        · rw [z2 j hj, aA, if_pos rfl]
          exact ⟨by decide, rfl⟩
      · rw [if_neg c]
        refine ⟨x1, x2, x3, fun r hr => ?_⟩
        obtain ⟨y1, y2, y3, y4, y5, y6⟩ := x4 r hr
        refine ⟨y1, by rw [nn]; omega, by rw [kK, if_neg (by omega)]; exact y3, by rw [lL, if_neg (by omega)]; exact y4, fun z => y5 ((K5 _).1 z), ?_⟩
        rw [aS r (by omega)]
        exact y6
    · rw [aS _ (ln 4 (by decide))]
      exact hc.2.2.2.2.2.2.2.2.2.2.2.2.2
/-- a sector is written -/
def aSe (w : Wd) (n q : Nat) (f : Nat → Nat) (c d : Nat) : Wd := (fun n' k => if n' = n ∧ k = 100 + q then (d : Int) else if n' = n ∧ k = 14 then w.1 n' k + d else w.1 n' k, w.2.1, w.2.2.1, fun n' s i => if n' = n ∧ s = q ∧ i < c then f i else w.2.2.2.1 n' s i, w.2.2.2.2)
/-- the state after a sector is written -/
def cSe (s : cS) (b q r off c d : Nat) : cS := csI (csA (csArow s r (va_cpy (cA s (b + 4)) (cA s r) off 0 c)) (b + 3) q (nI d)) 8 (b + 1) (cI s 8 (b + 1) + nI d)
theorem sec_C {q r off c d : Nat} {f : Nat → Nat} (h : CR F g H T s ct hd w pe) (hn : n < H) (hq : q < 284) (e : cP s (nd g n + 2) q = some r) (hc : c ≤ 512) (hd' : d ≤ 1) (hf : ∀ i, i < c → f i < 256 ∧ cA s (nd g n + 4) (off + i) = sb (f i)) (hch : ∀ k y, 1 ≤ k → k ≤ 40 → wY w n 7 k = some y → q ≠ 2 * k - 2 ∧ q ≠ 2 * k - 1) : CR F g H T (cSe s (nd g n) q r off c d) ct hd (aSe w n q f c d) pe := by
  have hcn := h.node hn
  have hi := h.kin
  have all := fun m hm => h.node (n := m) hm
  obtain ⟨h1, h2, h3, h4, h5, h6⟩ := h
  obtain ⟨y1, y2, y3, y4, y5, y6⟩ := (hcn.2.2.2.1 q hq).2.2.2 r e
  have to := o52 (isO5 (g := g) hn)
  have k20 : cK s (nd g n + 4) = 20 := (h2.2.1 3 2 (nd g n + 1) to (by omega) _ rfl).2.1
  have k23 : cK s (nd g n + 3) = 23 := (h2.2.1 3 1 (nd g n + 1) to (by omega) _ rfl).2.1
  have rl : ∀ m o, m < H → o < 24 → nd g m + o ≠ r := fun m o hm ho => by unfold nd at *; omega
  have st : St 0 g H T (cSe s (nd g n) q r off c d) := by
    have a1 := h2.Ac r (nd g n + 4) off 0 c (tK_some k20)
    exact (a1.Aw (k := 23) (nd g n + 3) q (nI d) (tK_some k23) (by decide)).I _ _ _
  have kK : cK (cSe s (nd g n) q r off c d) = cK s := rfl
  have lL : cL (cSe s (nd g n) q r off c d) = cL s := rfl
  have rR : cR (cSe s (nd g n) q r off c d) = cR s := rfl
  have jJ : cJ (cSe s (nd g n) q r off c d) = cJ s := rfl
  have pP : cP (cSe s (nd g n) q r off c d) = cP s := rfl
  have nn : cn (cSe s (nd g n) q r off c d) = cn s := rfl
  have nk : ck (cSe s (nd g n) q r off c d) = ck s := rfl
  have iO : ∀ k b, k ≠ 8 ∨ b ≠ nd g n + 1 → cI (cSe s (nd g n) q r off c d) k b = cI s k b := fun k b hb => by
    unfold cSe
    rw [cI_other _ _ hb]
    rfl
  have i8 : cI (cSe s (nd g n) q r off c d) 8 (nd g n + 1) = cI s 8 (nd g n + 1) + nI d := cI_same _ _ _ _
  have aO : ∀ b, b ≠ r → b ≠ nd g n + 3 → cA (cSe s (nd g n) q r off c d) b = cA s b := fun b hb hb2 => by
    unfold cSe
    rw [cA_I, cA_ne _ _ _ hb2, cA_other _ _ hb]
  have aR : ∀ j, cA (cSe s (nd g n) q r off c d) r j = if j < c then cA s (nd g n + 4) (off + j) else cA s r j := fun j => by
    unfold cSe
    rw [cA_I, cA_ne _ _ _ (fun z => rl n 3 hn (by decide) z.symm), cA_same]
    unfold va_cpy
    by_cases z : j < c
    · rw [if_pos z, if_pos ⟨Nat.zero_le _, by omega⟩]
      simp
    · rw [if_neg z, if_neg (by omega)]
  have a3 : ∀ j, cA (cSe s (nd g n) q r off c d) (nd g n + 3) j = if j = q then nI d else cA s (nd g n + 3) j := fun j => by
    unfold cSe
    rw [cA_I, cA_at, cA_other _ _ (rl n 3 hn (by decide))]
  generalize cSe s (nd g n) q r off c d = s' at st kK lL rR jJ pP nn nk iO i8 aO aR a3 ⊢
  have mR : ∀ b, cK s b = 5 → b + 2 ≠ r ∧ nd g H ≤ b := fun b hb => ⟨fun z => y5 (by rw [← z, show b + 2 - 2 = b by omega]; exact hb), h4.n hb⟩
  have l3 : nd g n + 3 < nd g H := by unfold nd; omega
  have HPs : HP g H T s' ct hd := by
    refine h4.fr (fun b => by rw [kK]) (fun b _ => by rw [lL]) (fun b hb => iO 3 b (Or.inl (by decide))) (fun b _ => by rw [rR]) (fun k _ => by rw [rR]) (fun b => ?_) (fun b hb hm => ?_) ?_
    · unfold us
      rw [cnA_fr (s := s) (s' := s') (by rw [pP]) (fun _ _ _ _ => by rw [pP]) (fun _ _ _ _ => by rw [rR])]
    · obtain ⟨z1, z2⟩ := mR b hm.1.1
      exact hm.fr (by rw [kK]) (by rw [lL]) (iO 2 b (Or.inl (by decide))) (iO 4 b (Or.inl (by decide))) (iO 5 b (Or.inl (by decide))) (by rw [jJ]) (aO _ z1 (by omega))
    · have sp := h4.2.2.2.2
      refine ⟨fun m e i b x1 x2 x3 x4 => ?_, fun m k b x1 x2 x3 => ?_⟩
      · rw [pP] at x4
        rw [lL, iO 4 b (Or.inl (by decide))]
        exact sp.1 m e i b x1 x2 x3 x4
      · rw [rR] at x3
        rw [iO 4 b (Or.inl (by decide))]
        exact sp.2 m k b x1 x2 x3
  have wN_ : ∀ m, m ≠ n → wN (aSe w n q f c d) m = wN w m := fun m hm => funext fun k => by
    show (if m = n ∧ k = 100 + q then (d : Int) else if m = n ∧ k = 14 then w.1 m k + d else w.1 m k) = w.1 m k
    rw [if_neg (fun z => hm z.1), if_neg (fun z => hm z.1)]
  have wX_ : ∀ m, m ≠ n → wX (aSe w n q f c d) m = wX w m := fun m hm => funext fun k => funext fun i => by
    show (if m = n ∧ k = q ∧ i < c then f i else w.2.2.2.1 m k i) = w.2.2.2.1 m k i
    rw [if_neg (fun z => hm z.1)]
  have vn : ∀ k, wN (aSe w n q f c d) n k = if k = 100 + q then (d : Int) else if k = 14 then wN w n k + d else wN w n k := fun k => by
    show (if n = n ∧ k = 100 + q then (d : Int) else if n = n ∧ k = 14 then w.1 n k + d else w.1 n k) = _
    by_cases z : k = 100 + q
    · rw [if_pos ⟨rfl, z⟩, if_pos z]
    · rw [if_neg (fun x => z x.2), if_neg z]
      by_cases z2 : k = 14
      · rw [if_pos ⟨rfl, z2⟩, if_pos z2]
        rfl
      · rw [if_neg (fun x => z2 x.2), if_neg z2]
        rfl
  have xn : ∀ k i, wX (aSe w n q f c d) n k i = if k = q ∧ i < c then f i else wX w n k i := fun k i => by
    show (if n = n ∧ k = q ∧ i < c then f i else w.2.2.2.1 n k i) = _
    by_cases z : k = q ∧ i < c
    · rw [if_pos ⟨rfl, z⟩, if_pos z]
    · rw [if_neg (fun x => z x.2), if_neg z]
      rfl
  refine ⟨h1, st, by rw [nn]; exact h3, HPs, h5.fr kK lL nn nk (fun _ _ => by rw [pP]), h6.onx hn ⟨by rw [nn]; exact Nat.le_refl _, fun a _ => ⟨by rw [kK], by rw [lL]⟩, fun a ha hp => ⟨fun k => iO k a (Or.inr (fun z => hp (by unfold ndP; omega))), fun k => by rw [rR], aO a (by omega) (fun z => hp (by unfold ndP; omega)), by rw [jJ], by rw [pP]⟩⟩ (fun m hm z => ?_) (fun m hm => ⟨wN_ m hm, rfl, rfl, wX_ m hm⟩) rfl rfl rfl (fun _ _ => rfl) (hi.fr (fun _ _ => by rw [pP])) ?_⟩
  · refine ⟨by rw [nn]; exact Nat.le_refl _, fun a _ => ⟨by rw [kK], by rw [lL]⟩, fun k o ho _ => iO k _ (Or.inr (by unfold nd; omega)), fun k _ => by rw [rR], fun o ho _ => aO _ (rl m o hm ho) (by unfold nd; omega), fun o ho _ => ⟨by rw [jJ], by rw [pP]⟩, fun i r' hi' hr _ _ _ _ => aO r' (fun x => ?_) (by unfold nd at *; omega)⟩
    rw [x] at hr
    exact z (hi m i n q r hm hn hi' hq hr e).1
  · refine hcn.up (fun k o ho _ h1 _ => iO k _ (Or.inr (by omega))) (fun k _ => by rw [rR]) (fun o ho _ h3' _ _ => aO _ (rl n o hn ho) (by omega)) (fun o ho _ _ => by rw [pP]) (fun o ho _ => by rw [jJ]) (fun k hk => by rw [vn, if_neg (by omega), if_neg (by omega)]) ?_ ?_ ?_ ?_
    · obtain ⟨q1, q2, q3, q4, q5⟩ := hcn.2.2.1
      unfold qL
      rw [iO 5 _ (Or.inl (by decide)), iO 6 _ (Or.inl (by decide)), iO 7 _ (Or.inl (by decide)), i8, iO 9 _ (Or.inl (by decide)), q4, iI_addn, vn, vn, vn, vn, vn, if_neg (by omega), if_neg (by omega), if_neg (by omega), if_neg (by omega), if_neg (by omega), if_neg (by omega), if_neg (by omega), if_pos rfl, if_neg (by omega), if_neg (by omega)]
      exact ⟨q1, q2, q3, rfl, q5⟩
    · intro i hi'
      obtain ⟨x1, x2, x3, x4⟩ := hcn.2.2.2.1 i hi'
      rw [a3, pP, vn]
      by_cases z : i = q
      · subst z
        rw [if_pos rfl, if_pos rfl]
        refine ⟨(iI_n d).symm, by omega, fun z => ?_, fun r' hr => ?_⟩
        · rw [e] at z
          cases z
        · rw [e] at hr
          cases hr
          refine ⟨y1, by rw [nn]; exact y2, by rw [kK]; exact y3, by rw [lL]; exact y4, by rw [kK]; exact y5, fun j hj => ?_⟩
          rw [xn, aR]
          by_cases z2 : j < c
          · rw [if_pos ⟨rfl, z2⟩, if_pos z2]
            exact hf j z2
          · rw [if_neg (fun x => z2 x.2), if_neg z2]
            exact y6 j hj
      · rw [if_neg z, if_neg (by omega), if_neg (by omega)]
        have xe : wX (aSe w n q f c d) n i = wX w n i := funext fun j => by rw [xn, if_neg (fun x => z x.1)]
        rw [xe]
        refine ⟨x1, x2, x3, fun r' hr => ?_⟩
        obtain ⟨u1, u2, u3, u4, u5, u6⟩ := x4 r' hr
        refine ⟨u1, by rw [nn]; exact u2, by rw [kK]; exact u3, by rw [lL]; exact u4, by rw [kK]; exact u5, ?_⟩
        rw [aO r' (fun x => ?_) (by omega)]
        · exact u6
        · rw [x] at hr
          exact z (hi n i n q r hn hn hi' hq hr e).2
    · intro k k1 k2
      obtain ⟨z1, z2⟩ := hcn.2.2.2.2.1 k k1 k2
      refine ⟨z1, fun y hy => ?_⟩
      obtain ⟨w1, w3, w4, w5, w6⟩ := z2 y hy
      obtain ⟨n1, n2⟩ := hch k y k1 k2 hy
      refine ⟨w1, w3, by rw [vn, if_neg (by omega), if_neg (by omega)]; exact w4, fun z => by rw [vn, if_neg (by omega), if_neg (by omega)]; exact w5 z, fun i hi' => ?_⟩
      have e1 : wX (aSe w n q f c d) n (2 * k - 2) (8 + i) = wX w n (2 * k - 2) (8 + i) := by rw [xn, if_neg (fun z => n1 z.1.symm)]
      have e2 : wX (aSe w n q f c d) n (2 * k - 1) (i - 504) = wX w n (2 * k - 1) (i - 504) := by rw [xn, if_neg (fun z => n2 z.1.symm)]
      rw [e1, e2]
      exact w6 i hi'
    · rw [aO _ (rl n 4 hn (by decide)) (by omega)]
      exact hcn.2.2.2.2.2.2.2.2.2.2.2.2.2
end
end
