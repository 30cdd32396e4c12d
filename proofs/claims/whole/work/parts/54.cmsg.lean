section
/-! WHAT MAY CHANGE, BY ADDRESS; THE CLASS'S MESSAGES -/
def cF (P : Nat → Prop) (s s' : cS) : Prop := cn s ≤ cn s' ∧ (∀ a, a < cn s → cK s' a = cK s a ∧ cL s' a = cL s a) ∧ ∀ a, a < cn s → ¬ P a → (∀ k, cI s' k a = cI s k a) ∧ (∀ k, cR s' k a = cR s k a) ∧ cA s' a = cA s a ∧ cJ s' a = cJ s a ∧ cP s' a = cP s a
section
variable {P P' : Nat → Prop} {s s1 s2 : cS} {a : Nat}
theorem cF.refl : cF P s s := ⟨Nat.le_refl _, fun _ _ => ⟨rfl, rfl⟩, fun _ _ _ => ⟨fun _ => rfl, fun _ => rfl, rfl, rfl, rfl⟩⟩
theorem cF.trans (h : cF P s s1) (h' : cF P s1 s2) : cF P s s2 := by
  have hn := h.1
  refine ⟨Nat.le_trans h.1 h'.1, fun a ha => ?_, fun a ha hp => ?_⟩
  · have x := h.2.1 a ha
    have y := h'.2.1 a (by omega)
    exact ⟨y.1.trans x.1, y.2.trans x.2⟩
  · obtain ⟨x1, x2, x3, x4, x5⟩ := h.2.2 a ha hp
    obtain ⟨y1, y2, y3, y4, y5⟩ := h'.2.2 a (by omega) hp
    exact ⟨fun k => (y1 k).trans (x1 k), fun k => (y2 k).trans (x2 k), y3.trans x3, y4.trans x4, y5.trans x5⟩
theorem cF.mono (h : cF P s s1) (hp : ∀ a, a < cn s → P a → P' a) : cF P' s s1 := ⟨h.1, h.2.1, fun a ha q => h.2.2 a ha (fun z => q (hp a ha z))⟩
theorem cF.K (h : cF P s s1) (ha : a < cn s) : cK s1 a = cK s a := (h.2.1 a ha).1
theorem cF.L (h : cF P s s1) (ha : a < cn s) : cL s1 a = cL s a := (h.2.1 a ha).2
theorem cF.I (h : cF P s s1) (ha : a < cn s) (hp : ¬ P a) (k : Nat) : cI s1 k a = cI s k a := (h.2.2 a ha hp).1 k
theorem cF.R (h : cF P s s1) (ha : a < cn s) (hp : ¬ P a) (k : Nat) : cR s1 k a = cR s k a := (h.2.2 a ha hp).2.1 k
theorem cF.A (h : cF P s s1) (ha : a < cn s) (hp : ¬ P a) : cA s1 a = cA s a := (h.2.2 a ha hp).2.2.1
theorem cF.J (h : cF P s s1) (ha : a < cn s) (hp : ¬ P a) : cJ s1 a = cJ s a := (h.2.2 a ha hp).2.2.2.1
theorem cF.Pp (h : cF P s s1) (ha : a < cn s) (hp : ¬ P a) : cP s1 a = cP s a := (h.2.2 a ha hp).2.2.2.2
theorem cfr.F (h : cfr P s s1) : cF P s s1 := by
  obtain ⟨h1, h2, h3, h4, h5, h6, h7, h8, h9⟩ := h
  refine ⟨by rw [h3]; exact Nat.le_refl _, fun a _ => ⟨by rw [h1], by rw [h2]⟩, fun a _ hp => ⟨fun k => h8 k a hp, fun k => by rw [h5], h9 a hp, by rw [h7], by rw [h6]⟩⟩
theorem cF_I (s : cS) (k a : Nat) (v : Int32) : cF (fun b => b = a) s (csI s k a v) := (cfr_I s k a v).F
theorem cF_A (s : cS) (a i : Nat) (v : Int32) : cF (fun b => b = a) s (csA s a i v) := (cfr_A s a _).F
theorem cF_Ar (s : cS) (a : Nat) (f : Nat → Int32) : cF (fun b => b = a) s (csArow s a f) := (cfr_A s a f).F
theorem cJ_same (s : cS) (a : Nat) (f : Nat → Int64) : cJ (csJrow s a f) a = f := by
  show up1 (cJ s) a f a = f
  unfold up1
  rw [if_pos rfl]
theorem cJ_other (s : cS) {a b : Nat} (f : Nat → Int64) (h : b ≠ a) : cJ (csJrow s a f) b = cJ s b := by
  show up1 (cJ s) a f b = _
  unfold up1
  rw [if_neg h]
theorem up1_up1 {α : Type} (x : Nat → α) (a : Nat) (f f' : α) : up1 (up1 x a f) a f' = up1 x a f' := by
  funext q
  unfold up1
  by_cases e : q = a
  · rw [if_pos e, if_pos e]
  · rw [if_neg e, if_neg e, if_neg e]
theorem up1_self {α : Type} (x : Nat → α) (a : Nat) : up1 x a (x a) = x := by
  funext q
  unfold up1
  by_cases e : q = a
  · rw [if_pos e, e]
  · rw [if_neg e]
theorem J_J (s : cS) (a : Nat) (f f' : Nat → Int64) : csJrow (csJrow s a f) a f' = csJrow s a f' := by
  show (s.1, s.2.1, s.2.2.1, s.2.2.2.1, s.2.2.2.2.1, up1 (up1 s.2.2.2.2.2.1 a f) a f', s.2.2.2.2.2.2) = _
  rw [up1_up1]
  rfl
theorem J_self (s : cS) (a : Nat) : csJrow s a (cJ s a) = s := by
  show (s.1, s.2.1, s.2.2.1, s.2.2.2.1, s.2.2.2.2.1, up1 s.2.2.2.2.2.1 a (s.2.2.2.2.2.1 a), s.2.2.2.2.2.2) = _
  rw [up1_self]
theorem cF_Jr (s : cS) (a : Nat) (f : Nat → Int64) : cF (fun b => b = a) s (csJrow s a f) := ⟨Nat.le_refl _, fun _ _ => ⟨rfl, rfl⟩, fun b _ hb => ⟨fun _ => rfl, fun _ => rfl, rfl, cJ_other s f hb, rfl⟩⟩
theorem cB.F {r : Nat} {b : List Nat} (h : cB s r b) (hf : cF P s s1) (ha : r < cn s) (hr : ¬ P r) : cB s1 r b := by
  have e1 := hf.L ha
  have e2 := hf.A ha hr
  exact ⟨by rw [e1]; exact h.1, by rw [e1]; exact h.2.1, fun i hi => by rw [e2]; exact h.2.2.1 i hi, h.2.2.2⟩
end
/-- a message's bytes -/
def mS (s : cS) (a : Nat) (m : List Nat) : Prop := cK s a = 5 ∧ cI s 2 a = nI m.length ∧ cB s (a + 2) m ∧ m.length ≤ 1000 ∧ cL s (a + 2) = (if m.length ≤ 128 then 128 else 1000) ∧ 1 ≤ m.length
theorem mS.L {s : cS} {a : Nat} {m : List Nat} (h : mS s a m) : 128 ≤ cL s (a + 2) ∧ cL s (a + 2) ≤ 1000 := by
  rw [h.2.2.2.2.1]
  split <;> omega
section
variable {N u g H T a i : Nat} {s : cS} {m : List Nat}
theorem kind_ok (h : mS s a m) : p_X5_kind N g H T s a ∧ k_X5_kind N g H T s a = nI (bg m 0) := by
  obtain ⟨h1, h2, h3, h4, h5, h6⟩ := h
  have l := h3.1
  show wp (KO_X5_kind_0 N g H T (some a) s) (KF_X5_kind_0 N g H T (some a) s) (fun v => v = nI (bg m 0))
  unfold KO_X5_kind_0 KF_X5_kind_0
  rw [zsome a, h2, h3.an (a := 0) (by omega)]
  exact wp_and someN (wp_neg (by rw [n_le0 (by omega)]; omega) (wp_and ((n_in (by omega)).2 (by omega)) (wp_fin trivial rfl)))
theorem signer_ok (h : mS s a m) : p_X5_signer N g H T s a ∧ k_X5_signer N g H T s a = nI (bg m 1) := by
  obtain ⟨h1, h2, h3, h4, h5, h6⟩ := h
  have l := h3.1
  show wp (KO_X5_signer_0 N g H T (some a) s) (KF_X5_signer_0 N g H T (some a) s) (fun v => v = nI (bg m 1))
  unfold KO_X5_signer_0 KF_X5_signer_0
  rw [zsome a, h2]
  refine wp_and someN (wp_ite (fun c => ?_) (fun c => ?_)) <;> rw [n_le' (by omega) (by omega)] at c
  · refine wp_fin trivial ?_
    rw [bg_out (by omega)]
    rfl
  · rw [h3.an (a := 1) (by omega)]
    exact wp_and ((n_in (by omega)).2 (by omega)) (wp_fin trivial rfl)
theorem at_ok (h : mS s a m) (hi : i < 2147483648) : p_X5_at N g H T s a (nI i) ∧ k_X5_at N g H T s a (nI i) = nI (bg m i) := by
  obtain ⟨h1, h2, h3, h4, h5, h6⟩ := h
  have l := h3.1
  show wp (KO_X5_at_0 N g H T (some a) (nI i) s) (KF_X5_at_0 N g H T (some a) (nI i) s) (fun v => v = nI (bg m i))
  unfold KO_X5_at_0 KF_X5_at_0
  rw [zsome a, h2]
  refine wp_neg (n_lt0 hi) (wp_and someN (wp_ite (fun c => ?_) (fun c => ?_))) <;> rw [n_le' (by omega) (by omega)] at c
  · refine wp_fin trivial ?_
    rw [bg_out (by omega)]
    rfl
  · rw [h3.an (a := i) (by omega)]
    exact wp_and ((n_in (by omega)).2 (by omega)) (wp_fin trivial rfl)
def twM (m : List Nat) (i : Nat) : Nat := if i + 1 < m.length then tw m i else 0
theorem two_ok (h : mS s a m) (hi : i < 2147483648) : p_X5_two N g H T s a (nI i) ∧ k_X5_two N g H T s a (nI i) = nI (twM m i) := by
  obtain ⟨h1, h2, h3, h4, h5, h6⟩ := h
  have l := h3.1
  show wp (KO_X5_two_0 N g H T (some a) (nI i) s) (KF_X5_two_0 N g H T (some a) (nI i) s) (fun v => v = nI (twM m i))
  unfold KO_X5_two_0 KF_X5_two_0 twM
  rw [zsome a, h2, n_sub h6]
  refine wp_neg (n_lt0 hi) (wp_and someN (wp_ite (fun c => ?_) (fun c => ?_))) <;> rw [n_le' (by omega) (by omega)] at c
  · refine wp_fin trivial ?_
    rw [if_neg (by omega)]
    rfl
  · rw [n_add, h3.an (a := i) (by omega), h3.an (a := i + 1) (by omega), n_two (h3.2.2.2 _) (h3.2.2.2 _), if_pos (by omega)]
    exact wp_and ((n_in (by omega)).2 (by omega)) (wp_and ((n_in (by omega)).2 (by omega)) (wp_fin trivial rfl))
theorem blockAt_ok (h : mS s a m) : p_X5_blockAt N g H T s a ∧ k_X5_blockAt N g H T s a = (if bg m 0 = 1 then nI 6 else if bg m 0 = 4 then nI 1 else -1) := by
  obtain ⟨a1, a2⟩ := kind_ok (N := N) (g := g) (H := H) (T := T) h
  have t := h.2.2.1.2.2.2 0
  show wp (KO_X5_blockAt_0 N g H T (some a) s) (KF_X5_blockAt_0 N g H T (some a) s) (fun v => v = (if bg m 0 = 1 then nI 6 else if bg m 0 = 4 then nI 1 else -1))
  unfold KO_X5_blockAt_0 KF_X5_blockAt_0
  rw [zsome a, a2]
  refine wp_and ⟨someN, a1⟩ (wp_ite (fun c => ?_) (fun c => ?_)) <;> rw [n_eq' (by omega) (by omega)] at c
  · refine wp_fin trivial ?_
    rw [if_pos c]
    rfl
  refine wp_and a1 (wp_ite (fun c2 => ?_) (fun c2 => ?_)) <;> rw [n_eq' (by omega) (by omega)] at c2
  · refine wp_fin trivial ?_
    rw [if_neg c, if_pos c2]
    rfl
  · refine wp_fin trivial ?_
    rw [if_neg c, if_neg c2]
    rfl
end
section
variable {N u g H T r a i e : Nat} {s : cS} {b m : List Nat}
/-- eight bytes as a long -/
def e8B (b : List Nat) (e i : Nat) : Int64 := l8 (fun j => nI (if i + j < e then bg b (i + j) else 0)) 8
theorem eight_ok (hb : cB s r b) (he : e ≤ b.length) (hi : i < 2147483648) (hN : 10 ≤ N) : p_X11_eight N g H T s (some r) (nI e) (nI i) ∧ k_X11_eight N g H T s (some r) (nI e) (nI i) = e8B b e i := by
  have h1 := hb.1
  have h2 := hb.2.1
  show wp (KO_X11_eight_0 N g H T (some r) (nI e) (nI i) s) (KF_X11_eight_0 N g H T (some r) (nI e) (nI i) s) (fun v => v = e8B b e i)
  unfold KO_X11_eight_0 KF_X11_eight_0
  refine wp_seq (Q := fun z : Nat × Int64 × Unit => z.2.1 = e8B b e i) ?_ (fun z hz => wp_fin trivial hz)
  refine wp_loop (K := 8) (fun j (x : Int64) => x = l8 (fun j => nI (if i + j < e then bg b (i + j) else 0)) j) (fun n j x => KOL_X11_eight_5 N g H T n (some r) (nI e) (nI i) x (nI j) s) (fun n j x => KL_X11_eight_5 N g H T n (some r) (nI e) (nI i) x (nI j) s) (fun n j x hj hI ih => ?_) 0 N (0 : Int64) (by omega) (by omega) rfl
  unfold KOL_X11_eight_5 KL_X11_eight_5 KOB_X11_eight_5 KB_X11_eight_5
  by_cases ej : j = 8
  · refine wp_pos (by rw [n_le' (by omega) (by omega)]; omega) ?_
    subst ej
    exact wp_fin trivial hI
  · have sub : ∀ c : Nat, c ≤ 3000 → nI c - nI j = iI ((c : Int) - j) := fun c _ => by
      rw [← iI_n, ← iI_n]; exact (Int32.ofInt_sub _ _).symm
    have le : ∀ c : Nat, c ≤ 3000 → (nI c - nI j ≤ nI i ↔ c ≤ i + j) := fun c hc => by
      rw [sub c hc, ← iI_n i, iI_le (by omega) (by omega) (by omega) (by omega)]
      omega
    have go : ∀ y : Nat, y = (if i + j < e then bg b (i + j) else 0) → wp (KO_X11_eight_63 N g H T (fun x0 x1 x2 x3 x5 => KOL_X11_eight_5 N g H T n x0 x1 x2 x3 x5 s) (some r) (nI e) (nI i) (nI j) (x <<< (Int32.toInt64 (nI 8) &&& 63)) (nI y) s) (KF_X11_eight_63 N g H T (fun x0 x1 x2 x3 x5 => KL_X11_eight_5 N g H T n x0 x1 x2 x3 x5 s) (some r) (nI e) (nI i) (nI j) (x <<< (Int32.toInt64 (nI 8) &&& 63)) (nI y) s) (fun z : Nat × Int64 × Unit => z.2.1 = e8B b e i) := by
      intro y hy
      unfold KO_X11_eight_63 KF_X11_eight_63
      rw [n_add]
      refine ih _ ?_ (by omega)
      rw [hI, hy]
      rfl
    have no : ¬ i + j < e → wp (KO_X11_eight_37 N g H T (fun x0 x1 x2 x3 x5 => KOL_X11_eight_5 N g H T n x0 x1 x2 x3 x5 s) (some r) (nI e) (nI i) x (nI j) s) (KF_X11_eight_37 N g H T (fun x0 x1 x2 x3 x5 => KL_X11_eight_5 N g H T n x0 x1 x2 x3 x5 s) (some r) (nI e) (nI i) x (nI j) s) (fun z : Nat × Int64 × Unit => z.2.1 = e8B b e i) := by
      intro q
      unfold KO_X11_eight_37 KF_X11_eight_37 KO_X11_eight_38 KF_X11_eight_38
      exact wp_pos rfl (go 0 (by rw [if_neg q]))
    refine wp_neg (by rw [n_le' (by omega) (by omega)]; omega) (wp_neg (n_lt0 hi) (wp_ite (fun c => ?_) (fun c => ?_))) <;> rw [le e (by omega)] at c
    · exact no (by omega)
    rw [zsome r]
    refine wp_and someN (wp_ite (fun c2 => ?_) (fun c2 => ?_)) <;> rw [le _ (by omega)] at c2
    · exact no (by omega)
    · unfold KO_X11_eight_38 KF_X11_eight_38
      rw [zsome r, n_add, hb.an (a := i + j) (by omega)]
      exact wp_neg (by decide) (wp_and ⟨someN, ((n_in (by omega)).2 (by omega))⟩ (go _ (by rw [if_pos (by omega)])))
theorem e8B_byt (hb : isB b) {k : Nat} (hk : k < 8) : byt (e8B b e i) k = nI (if i + k < e then bg b (i + k) else 0) := by
  unfold e8B
  refine byt_l8 (fun j => n_255 ?_) hk
  have := hb (i + j)
  split <;> omega
/-- a message learns its id out of a row -/
theorem readId_ok (hb : cB s r b) (hl : b.length = cL s r) (ha : i + 32 ≤ b.length) (hN : 10 ≤ N) : wp (p_X5_readId N g H T s a (some r) (nI i)) (k_X5_readId N g H T s a (some r) (nI i)) (fun s' => ∃ f, s' = csJrow (csI s 5 a (nI 1)) (a + 1) f ∧ ∀ k, k < 32 → lby f k = nI (bg b (i + k))) := by
  have h2 := hb.2.1
  show wp (KO_X5_readId_0 N g H T (some a) (some r) (nI i) s) (KF_X5_readId_0 N g H T (some a) (some r) (nI i) s) _
  unfold KO_X5_readId_0 KF_X5_readId_0
  rw [zsome r, ← hl, n_sub (by omega)]
  refine wp_neg (n_lt0 (by omega)) (wp_and someN (wp_neg (by rw [n_lt' (by omega) (by omega)]; omega) ?_))
  unfold KO_X5_readId_19 KF_X5_readId_19
  rw [zsome a]
  refine wp_and ⟨someN, rfl, rfl⟩ ?_
  have hb1 : cB (csI s 5 a (nI 1)) r b := hb
  refine wp_seq (Q := fun z : Nat × cS => ∃ f, z.2 = csJrow (csI s 5 a (nI 1)) (a + 1) f ∧ ∀ k, k < 32 → lby f k = nI (bg b (i + k))) ?_ (fun z hz => wp_fin trivial hz)
  refine wp_loop (K := 4) (fun j (x : cS) => ∃ f, x = csJrow (csI s 5 a (nI 1)) (a + 1) f ∧ ∀ k, k < 8 * j → lby f k = nI (bg b (i + k))) (fun n j x => KOL_X5_readId_24 N g H T n (some a) (some r) (nI i) (nI j) x) (fun n j x => KL_X5_readId_24 N g H T n (some a) (some r) (nI i) (nI j) x) (fun n j x hj hI ih => ?_) 0 N (csI s 5 a (nI 1)) (by omega) (by omega) ⟨cJ s (a + 1), ?_, fun k hk => absurd hk (by omega)⟩
  · obtain ⟨f, rfl, hf⟩ := hI
    unfold KOL_X5_readId_24 KL_X5_readId_24 KOB_X5_readId_24 KB_X5_readId_24
    by_cases ej : j = 4
    · refine wp_pos (by rw [n_le' (by omega) (by omega)]; omega) ?_
      subst ej
      exact wp_fin trivial ⟨f, rfl, hf⟩
    · have e5 : cI (csJrow (csI s 5 a (nI 1)) (a + 1) f) 5 (za (some a)) = nI 1 := cI_same _ _ _ _
      have eL : cL (csJrow (csI s 5 a (nI 1)) (a + 1) f) (za (some r)) = b.length := hl.symm
      have hb2 : cB (csJrow (csI s 5 a (nI 1)) (a + 1) f) r b := hb
      obtain ⟨v1, v2⟩ := eight_ok (N := N) (g := g) (H := H) (T := T) (e := b.length) (i := i + 8 * j) hb2 (Nat.le_refl _) (by omega) hN
      rw [e5, eL]
      simp only [n_mul, n_add]
      rw [v2, n_clamp (by omega)]
      refine wp_neg (by rw [n_le' (by omega) (by omega)]; omega) (wp_and someN (wp_neg (by decide) (wp_and someN (wp_and v1 (wp_and ((n_in (by omega)).2 (by omega)) (ih _ ?_ (by omega)))))))
      refine ⟨vp_updL f j (e8B b b.length (i + 8 * j)), ?_, fun k hk => ?_⟩
      · show csJrow (csJrow (csI s 5 a (nI 1)) (a + 1) f) (a + 1) (vp_updL (cJ (csJrow (csI s 5 a (nI 1)) (a + 1) f) (a + 1)) j _) = _
        rw [cJ_same, J_J]
      · by_cases c : 8 * j ≤ k
        · rw [lby_eq (a := j) (b := k % 8) (by omega) rfl, updL_same, e8B_byt hb.2.2.2 (by omega), if_pos (by omega)]
          congr 2
          omega
        · have e9 : lby (vp_updL f j (e8B b b.length (i + 8 * j))) k = lby f k := by
            unfold lby
            rw [updL_other _ _ (by omega)]
          rw [e9]
          exact hf k (by omega)
  · exact (J_self (csI s 5 a (nI 1)) (a + 1)).symm
end
end
