/-! COUNTED LOOPS; what a method leaves; THE REFERENCE'S TREE OF HASHES -/
theorem cloop {σ R : Type} {K : Nat} {P : Nat → σ → Prop} {E : σ → R} (OLf : Nat → Int32 → σ → Prop) (Lf : Nat → Int32 → σ → R) (hend : ∀ n S, P K S → OLf (n + 1) (nI K) S ∧ Lf (n + 1) (nI K) S = E S) (hstep : ∀ n j S, j < K → P j S → ∃ S', P (j + 1) S' ∧ (OLf n (nI (j + 1)) S' → OLf (n + 1) (nI j) S) ∧ Lf (n + 1) (nI j) S = Lf n (nI (j + 1)) S') : ∀ d j n S, j + d = K → d < n → P j S → OLf n (nI j) S ∧ ∃ S', Lf n (nI j) S = E S' ∧ P K S' := by
  intro d
  induction d with
  | zero =>
    intro j n S hj hn hP
    obtain ⟨n, rfl⟩ := exs (show 0 < n by omega)
    have e : j = K := by omega
    subst e
    exact ⟨(hend n S hP).1, S, (hend n S hP).2, hP⟩
  | succ d ih =>
    intro j n S hj hn hP
    obtain ⟨n, rfl⟩ := exs (show 0 < n by omega)
    obtain ⟨S', h1, h2, h3⟩ := hstep n j S (by omega) hP
    obtain ⟨i1, S2, i2, i3⟩ := ih (j + 1) n S' (by omega) (by omega) h1
    exact ⟨h2 i1, S2, by rw [h3, i2], i3⟩
def rfr (L : List Nat) (S S' : rS) : Prop := ∀ k, k ∉ L → S'.1 k = S.1 k ∧ S'.2.1 k = S.2.1 k ∧ S'.2.2 k = S.2.2 k
theorem rfr.refl {L : List Nat} {S : rS} : rfr L S S := fun _ _ => ⟨rfl, rfl, rfl⟩
theorem rfr.trans {L : List Nat} {S S1 S2 : rS} (h : rfr L S S1) (h' : rfr L S1 S2) : rfr L S S2 := fun k hk => ⟨(h' k hk).1.trans (h k hk).1, (h' k hk).2.1.trans (h k hk).2.1, (h' k hk).2.2.trans (h k hk).2.2⟩
theorem rfr.mono {L L' : List Nat} {S S1 : rS} (h : rfr L S S1) (hl : ∀ k ∈ L, k ∈ L') : rfr L' S S1 := fun k hk => h k (fun z => hk (hl k z))
theorem rfr.i {L : List Nat} {S S1 : rS} (h : rfr L S S1) (k : Nat) (hk : k ∉ L) : S1.1 k = S.1 k := (h k hk).1
theorem rfr.a {L : List Nat} {S S1 : rS} (h : rfr L S S1) (k : Nat) (hk : k ∉ L) : S1.2.1 k = S.2.1 k := (h k hk).2.1
theorem rfr.l {L : List Nat} {S S1 : rS} (h : rfr L S S1) (k : Nat) (hk : k ∉ L) : S1.2.2 k = S.2.2 k := (h k hk).2.2
theorem rfr_I (S : rS) (k : Nat) (v : Int32) : rfr [k] S (rsI S k v) := fun j hj => ⟨I_other _ _ (by simpa using hj), rfl, rfl⟩
theorem rfr_W (S : rS) (k : Nat) (f : Nat → Int32) : rfr [k] S (rsW S k f) := fun j hj => ⟨rfl, W_other _ _ (by simpa using hj), rfl⟩
theorem rfr_M (S : rS) (k : Nat) (f : Nat → Int64) : rfr [k] S (rsM S k f) := fun j hj => ⟨rfl, rfl, by
  have : j ≠ k := by simpa using hj
  simp [rsM, this]⟩
theorem M_same (S : rS) (k : Nat) (f : Nat → Int64) : (rsM S k f).2.2 k = f := by simp [rsM]
theorem M_other (S : rS) {k j : Nat} (f : Nat → Int64) (h : j ≠ k) : (rsM S k f).2.2 j = S.2.2 j := by simp [rsM, h]
theorem M_A (S : rS) (k : Nat) (f : Nat → Int64) : (rsM S k f).2.1 = S.2.1 := rfl
theorem M_I (S : rS) (k : Nat) (f : Nat → Int64) : (rsM S k f).1 = S.1 := rfl
theorem rsM_M (S : rS) (k : Nat) (f h : Nat → Int64) : rsM (rsM S k f) k h = rsM S k h := by
  unfold rsM
  congr 3
  funext j
  by_cases e : j = k <;> simp [e]
theorem rsM_self (S : rS) (k : Nat) : rsM S k (S.2.2 k) = S := by
  unfold rsM
  have e : (fun j => if j = k then S.2.2 k else S.2.2 j) = S.2.2 := by
    funext j
    by_cases e : j = k <;> simp [e]
  rw [e]
theorem updL_same (f : Nat → Int64) (k : Nat) (x : Int64) : vp_updL f k x k = x := by simp [vp_updL]
theorem updL_other (f : Nat → Int64) {k j : Nat} (x : Int64) (h : j ≠ k) : vp_updL f k x j = f j := by simp [vp_updL, h]
theorem rfr_hs (S : rS) (h : Nat → Int32) (n : Nat) : rfr [6, 7] S (hs S h n) := fun k hk => by
  have h6 : k ≠ 6 := fun e => hk (by simp [e])
  have h7 : k ≠ 7 := fun e => hk (by simp [e])
  exact ⟨by unfold hs; rw [I_other _ _ h7]; rfl, hs_A _ _ _ h6, rfl⟩
theorem lby_eq {f : Nat → Int64} {i a b : Nat} (ha : i / 8 = a) (hb : i % 8 = b) : lby f i = byt (f a) b := by
  subst ha
  subst hb
  rfl
/-- the constants that the hash is made with -/
def rK (S : rS) : Prop := (∀ t, t < 64 → S.2.1 10 t = shaK t) ∧ ∀ t, t < 8 → S.2.1 11 t = shaI t
theorem rK.fr {L : List Nat} {S S1 : rS} (h : rK S) (hf : rfr L S S1) (h10 : 10 ∉ L) (h11 : 11 ∉ L) : rK S1 := ⟨fun t ht => by rw [hf.a 10 h10]; exact h.1 t ht, fun t ht => by rw [hf.a 11 h11]; exact h.2 t ht⟩
theorem sum_sm {N j : Nat} {S : rS} (hj : j < 4) : o_sum N S (nI j) ∧ f_sum N S (nI j) = sm (S.2.1 8) j := by
  have e1 : nI 2 * nI j = nI (2 * j) := n_mul _ _
  have e2 : nI (2 * j) + nI 1 = nI (2 * j + 1) := n_add _ _
  constructor
  · show vp_in (nI 2 * nI j) 8 ∧ vp_in (nI 2 * nI j + nI 1) 8 ∧ True
    rw [e1, e2]
    exact ⟨nI_in (by omega) (by decide), nI_in (by omega) (by decide), trivial⟩
  · show ((Int32.toInt64 (S.2.1 8 ((nI 2) * nI j).toNatClampNeg)) <<< (Int32.toInt64 (nI 32) &&& 63)) ||| ((Int32.toInt64 (S.2.1 8 (((nI 2) * nI j) + (nI 1)).toNatClampNeg)) &&& (4294967295 : Int64)) = _
    rw [e1, e2, nI_clamp (by omega), nI_clamp (by omega)]
    rfl
theorem digest_fr {N l : Nat} {f : Nat → Int32} {S : rS} (hN : 100 ≤ N) (hl : l ≤ 1028) (h7 : S.1 7 = nI l) (h6 : ∀ i, i < l → S.2.1 6 i = f i) (hK : rK S) : o_digest N S ∧ rfr [6, 7, 8, 9] S (f_digest N S) ∧ v8 ((f_digest N S).2.1 8) = sha f l := by
  obtain ⟨a1, a6, a9, a8, a2, a3⟩ := digest_ok hN hl h7 h6 hK.1 hK.2
  refine ⟨a1, ?_, by rw [a2, W_same]; exact a3⟩
  rw [a2]
  exact (((rfr_hs S a6 _).mono (by decide)).trans ((rfr_W _ 9 a9).mono (by decide))).trans ((rfr_W _ 8 a8).mono (by decide))
theorem keep_ok {N l k : Nat} {f : Nat → Int32} {S : rS} (hN : 100 ≤ N) (hk : k < 68) (hl : l ≤ 1028) (h7 : S.1 7 = nI l) (h6 : ∀ i, i < l → S.2.1 6 i = f i) (hK : rK S) : o_keepLeaf N S (nI k) ∧ rfr [6, 7, 8, 9, 18] S (f_keepLeaf N S (nI k)) ∧ ∀ j i, i < 32 → lby ((f_keepLeaf N S (nI k)).2.2 18) (32 * j + i) = if j = k then dig (sha f l) i else lby (S.2.2 18) (32 * j + i) := by
  obtain ⟨a1, a2, a3⟩ := digest_fr hN hl h7 h6 hK
  generalize hS1 : f_digest N S = S1 at *
  have e18 : S1.2.2 18 = S.2.2 18 := a2.l 18 (by decide)
  obtain ⟨b1, S2, b2, lv, b3, b4⟩ := cloop (K := 4) (P := fun j S' => ∃ lv, S' = rsM S1 18 lv ∧ ∀ t, lv t = if 4 * k ≤ t ∧ t < 4 * k + j then sm (S1.2.1 8) (t - 4 * k) else S.2.2 18 t) (E := fun S' => (0, S')) (fun n x S' => OL_keepLeaf_6 N n (nI k) x S') (fun n x S' => L_keepLeaf_6 N n (nI k) x S')
    (fun n S' _ => ⟨⟨fun _ => trivial, fun c => absurd (nI_le (Nat.le_refl _) (by decide)) c⟩, by
      show B_keepLeaf_6 N (L_keepLeaf_6 N n) (nI k) (nI 4) S' = _
      unfold B_keepLeaf_6
      rw [if_pos (nI_le (Nat.le_refl _) (by decide))]⟩)
    (fun n j S' hj hP => by
      obtain ⟨lv, rfl, hlv⟩ := hP
      have hlt : ¬ nI 4 ≤ nI j := nI_ge hj (by decide)
      obtain ⟨s1, s2⟩ := sum_sm (N := N) (S := rsM S1 18 lv) hj
      have e1 : nI 4 * nI k + nI j = nI (4 * k + j) := by rw [n_mul, n_add]
      have e2 : (nI (4 * k + j)).toNatClampNeg = 4 * k + j := nI_clamp (by omega)
      refine ⟨rsM S1 18 (vp_updL lv (4 * k + j) (sm (S1.2.1 8) j)), ⟨_, rfl, fun t => ?_⟩, fun h => ⟨fun c => absurd c hlt, fun _ => ⟨s1, ?_, ?_⟩⟩, ?_⟩
      · by_cases e : t = 4 * k + j
        · subst e
          rw [updL_same, if_pos (by omega)]
          congr 1
          omega
        · rw [updL_other _ _ e, hlv t]
          by_cases c : 4 * k ≤ t ∧ t < 4 * k + j
          · rw [if_pos c, if_pos (by omega)]
          · rw [if_neg c, if_neg (by omega)]
      · rw [e1]
        exact nI_in (by omega) (by decide)
      · rw [e1, e2, s2, n_add, rsL_M, M_same, rsM_M]
        exact h
      · show B_keepLeaf_6 N (L_keepLeaf_6 N n) (nI k) (nI j) (rsM S1 18 lv) = _
        unfold B_keepLeaf_6
        rw [if_neg hlt, e1, e2, s2, n_add, rsL_M, M_same, rsM_M]
        rfl) 4 0 N S1 rfl (by omega) ⟨S1.2.2 18, (rsM_self _ _).symm, fun t => by rw [if_neg (by omega), e18]⟩
  have ef : f_keepLeaf N S (nI k) = rsM S1 18 lv := by
    show (L_keepLeaf_6 N N (nI k) (nI 0) (f_digest N S)).2 = _
    rw [hS1, show L_keepLeaf_6 N N (nI k) (nI 0) S1 = (0, S2) from b2]
    exact b3
  rw [ef]
  refine ⟨⟨a1, ?_⟩, (a2.mono (by decide)).trans ((rfr_M S1 18 lv).mono (by decide)), fun j i hi => ?_⟩
  · rw [hS1]
    exact ⟨b1, trivial⟩
  · rw [M_same]
    unfold lby
    have q1 : (32 * j + i) / 8 = 4 * j + i / 8 := by omega
    have q2 : (32 * j + i) % 8 = i % 8 := by omega
    rw [q1, q2, b4]
    by_cases e : j = k
    · subst e
      rw [if_pos rfl, if_pos (by omega), show 4 * j + i / 8 - 4 * j = i / 8 by omega, byt_dig hi, a3]
    · rw [if_neg e, if_neg (by omega)]
/-! the tree: leaves are 32 bytes each -/
def catB (x : Int32) (f : Nat → Int32) (i : Nat) : Int32 := if i = 0 then x else f (i - 1)
def leafV (f : Nat → Int32) (n : Nat) : V8 := sha (catB (nI 0) f) (n + 1)
def joinV (a b : Nat → Int32) : V8 := sha (catB (nI 1) (fun i => if i < 32 then a i else b (i - 32))) 65
def nextL (lv : Nat → Nat → Int32) (n i k : Nat) : Int32 := if i < n / 2 then dig (joinV (lv (2 * i)) (lv (2 * i + 1))) k else lv (2 * i) k
def topL (lv : Nat → Nat → Int32) (n : Nat) : Nat → Int32 := if h : n ≤ 1 then lv 0 else topL (nextL lv n) ((n + 1) / 2)
termination_by n
theorem topL_lo {lv : Nat → Nat → Int32} {n : Nat} (h : n ≤ 1) : topL lv n = lv 0 := by rw [topL, dif_pos h]
theorem topL_hi {lv : Nat → Nat → Int32} {n : Nat} (h : ¬ n ≤ 1) : topL lv n = topL (nextL lv n) ((n + 1) / 2) := by rw [topL, dif_neg h]
theorem joinV_congr {a a' b b' : Nat → Int32} (ha : ∀ i, i < 32 → a i = a' i) (hb : ∀ i, i < 32 → b i = b' i) : joinV a b = joinV a' b' := by
  unfold joinV
  apply sha_congr
  intro i hi
  unfold catB
  by_cases h : i = 0
  · rw [if_pos h, if_pos h]
  · rw [if_neg h, if_neg h]
    show (if i - 1 < 32 then a (i - 1) else b (i - 1 - 32)) = (if i - 1 < 32 then a' (i - 1) else b' (i - 1 - 32))
    by_cases h2 : i - 1 < 32
    · rw [if_pos h2, if_pos h2, ha _ h2]
    · rw [if_neg h2, if_neg h2, hb _ (by omega)]
theorem topL_congr : ∀ (n : Nat) (lv lv' : Nat → Nat → Int32), (∀ i k, i < n ∨ i = 0 → k < 32 → lv i k = lv' i k) → ∀ k, k < 32 → topL lv n k = topL lv' n k := by
  intro n
  induction n using Nat.strongRecOn with
  | ind n ih =>
    intro lv lv' h k hk
    by_cases h1 : n ≤ 1
    · rw [topL_lo h1, topL_lo h1]
      exact h 0 k (Or.inr rfl) hk
    · rw [topL_hi h1, topL_hi h1]
      refine ih ((n + 1) / 2) (by omega) _ _ (fun i k hi hk => ?_) k hk
      unfold nextL
      by_cases c : i < n / 2
      · rw [if_pos c, if_pos c, joinV_congr (fun j hj => h (2 * i) j (Or.inl (by omega)) hj) (fun j hj => h (2 * i + 1) j (Or.inl (by omega)) hj)]
      · rw [if_neg c, if_neg c]
        exact h (2 * i) k (by omega) hk
/-- the reference's leaves -/
def rLf (S : rS) (i k : Nat) : Int32 := lby (S.2.2 18) (32 * i + k)
theorem join_l21 {N m k : Nat} {S : rS} {x1 : Int32} (hN : 100 ≤ N) (hk : 2 * k + 1 < 68) (hm : m = 1) {h0 : Nat → Int32} (hh : h0 0 = nI 1) : OL_join_21 N N x1 (nI k) (nI 0) (hs S h0 1) ∧ ∃ h', L_join_21 N N x1 (nI k) (nI 0) (hs S h0 1) = (0, x1, nI k, hs S h' 65) ∧ ∀ i, i < 65 → h' i = catB (nI 1) (fun i => if i < 32 then rLf S (2 * k) i else rLf S (2 * k + 1) (i - 32)) i := by
  obtain ⟨b1, S2, b2, h', b3, b4⟩ := cloop (K := 64) (P := fun j S' => ∃ h', S' = hs S h' (j + 1) ∧ ∀ i, i < j + 1 → h' i = catB (nI 1) (fun i => if i < 32 then rLf S (2 * k) i else rLf S (2 * k + 1) (i - 32)) i) (E := fun S' => (0, x1, nI k, S')) (fun n x S' => OL_join_21 N n x1 (nI k) x S') (fun n x S' => L_join_21 N n x1 (nI k) x S')
    (fun n S' _ => ⟨⟨fun _ => trivial, fun c => absurd (nI_le (Nat.le_refl _) (by decide)) c⟩, by
      show B_join_21 N (L_join_21 N n) x1 (nI k) (nI 64) S' = _
      unfold B_join_21
      rw [if_pos (nI_le (Nat.le_refl _) (by decide))]⟩)
    (fun n j S' hj hP => by
      obtain ⟨h', rfl, hc⟩ := hP
      have hlt : ¬ nI 64 ≤ nI j := nI_ge hj (by decide)
      have e1 : nI 8 * nI k + nI j / nI 8 = nI (8 * k + j / 8) := by rw [n_mul, n_div (by omega) (by decide), n_add]
      have e2 : nI j - nI j / nI 8 * nI 8 = nI (j % 8) := n_mod (by omega) (by decide)
      have e3 : (nI (8 * k + j / 8)).toNatClampNeg = 8 * k + j / 8 := nI_clamp (by omega)
      have ev : f_byteIn N (hs S h' (j + 1)) ((hs S h' (j + 1)).2.2 18 (8 * k + j / 8)) (nI (j % 8)) = if j < 32 then rLf S (2 * k) j else rLf S (2 * k + 1) (j - 32) := by
        show byt (S.2.2 18 (8 * k + j / 8)) (j % 8) = _
        unfold rLf
        by_cases c : j < 32
        · rw [if_pos c]
          exact (lby_eq (by omega) (by omega)).symm
        · rw [if_neg c]
          exact (lby_eq (by omega) (by omega)).symm
      have ev255 : (if j < 32 then rLf S (2 * k) j else rLf S (2 * k + 1) (j - 32)) &&& nI 255 = if j < 32 then rLf S (2 * k) j else rLf S (2 * k + 1) (j - 32) := by
        by_cases c : j < 32
        · rw [if_pos c]; exact lby_255 _ _
        · rw [if_neg c]; exact lby_255 _ _
      obtain ⟨p1, p2⟩ := hashByte_hs (N := N) (S := S) (h := h') (n := j + 1) (if j < 32 then rLf S (2 * k) j else rLf S (2 * k + 1) (j - 32)) (by omega)
      rw [ev255] at p2
      refine ⟨hs S (upd h' (j + 1) (if j < 32 then rLf S (2 * k) j else rLf S (2 * k + 1) (j - 32))) (j + 1 + 1), ⟨_, rfl, fun i hi => ?_⟩, fun h => ⟨fun c => absurd c hlt, fun _ => ⟨?_, trivial, ?_, ?_⟩⟩, ?_⟩
      · by_cases e : i = j + 1
        · subst e
          rw [upd_same]
          rfl
        · rw [upd_other _ _ e]
          exact hc i (by omega)
      · rw [e1]
        exact nI_in (by omega) (by decide)
      · rw [e1, e2, e3, ev]
        exact p1
      · unfold O_join_52
        rw [e1, e2, e3, ev, p2, n_add]
        exact h
      · show B_join_21 N (L_join_21 N n) x1 (nI k) (nI j) (hs S h' (j + 1)) = _
        unfold B_join_21 F_join_52
        rw [if_neg hlt, e1, e2, e3, ev, p2, n_add]) 64 0 N (hs S h0 1) rfl (by omega) ⟨h0, rfl, fun i hi => by
          have e : i = 0 := by omega
          subst e
          exact hh⟩
  refine ⟨b1, h', ?_, b4⟩
  rw [show L_join_21 N N x1 (nI k) (nI 0) (hs S h0 1) = (0, x1, nI k, S2) from b2, b3]
theorem join_ok {N m : Nat} {S : rS} (hN : 100 ≤ N) (hm : m ≤ 66) (hK : rK S) : o_join N S (nI m) ∧ (f_join N S (nI m)).1 = nI ((m + 1) / 2) ∧ rfr [6, 7, 8, 9, 18] S (f_join N S (nI m)).2 ∧ ∀ i k, i < (m + 1) / 2 → k < 32 → rLf (f_join N S (nI m)).2 i k = nextL (rLf S) m i k := by
  have edv : nI m / nI 2 = nI (m / 2) := n_div (by omega) (by decide)
  obtain ⟨b1, S2, b2, b3, b4⟩ := cloop (K := m / 2) (P := fun j S' => rfr [6, 7, 8, 9, 18] S S' ∧ ∀ i k, k < 32 → rLf S' i k = if i < j then dig (joinV (rLf S (2 * i)) (rLf S (2 * i + 1))) k else rLf S i k) (E := fun S' => (0, nI m, S')) (fun n x S' => OL_join_2 N n (nI m) x S') (fun n x S' => L_join_2 N n (nI m) x S')
    (fun n S' _ => ⟨⟨fun _ => trivial, fun c => absurd (by rw [edv]; exact nI_le (Nat.le_refl _) (by omega)) c⟩, by
      show B_join_2 N (L_join_2 N n) (nI m) (nI (m / 2)) S' = _
      unfold B_join_2
      rw [edv, if_pos (nI_le (Nat.le_refl _) (by omega))]⟩)
    (fun n j S' hj hP => by
      obtain ⟨hf, hv⟩ := hP
      have hlt : ¬ nI m / nI 2 ≤ nI j := by rw [edv]; exact nI_ge hj (by omega)
      have eI : rsI S' 7 (nI 0) = hs S' (S'.2.1 6) 0 := by unfold hs; rw [rsW_self]
      obtain ⟨p1, p2⟩ := hashByte_hs (N := N) (S := S') (h := S'.2.1 6) (n := 0) (nI 1) (by decide)
      rw [show nI 1 &&& nI 255 = nI 1 by decide] at p2
      obtain ⟨q1, h', q2, q3⟩ := join_l21 (N := N) (m := 1) (k := j) (S := S') (x1 := nI m) hN (by omega) rfl (h0 := upd (S'.2.1 6) 0 (nI 1)) (upd_same _ _ _)
      have hK2 : rK (hs S' h' 65) := (hK.fr hf (by decide) (by decide)).fr (rfr_hs S' h' 65) (by decide) (by decide)
      obtain ⟨r1, r2, r3⟩ := keep_ok (N := N) (l := 65) (k := j) (S := hs S' h' 65) (f := catB (nI 1) (fun i => if i < 32 then rLf S' (2 * j) i else rLf S' (2 * j + 1) (i - 32))) hN (by omega) (by decide) (hs_7 _ _ _) (fun i hi => by rw [hs_6]; exact q3 i hi) hK2
      refine ⟨f_keepLeaf N (hs S' h' 65) (nI j), ⟨(hf.trans ((rfr_hs S' h' 65).mono (by decide))).trans r2, fun i k hk => ?_⟩, fun h => ⟨fun c => absurd c hlt, fun _ => ⟨?_, ?_⟩⟩, ?_⟩
      · unfold rLf
        rw [r3 i k hk]
        by_cases e : i = j
        · subst e
          rw [if_pos rfl, if_pos (by omega)]
          have eJ : sha (catB (nI 1) (fun i_1 => if i_1 < 32 then rLf S' (2 * i) i_1 else rLf S' (2 * i + 1) (i_1 - 32))) 65 = joinV (rLf S' (2 * i)) (rLf S' (2 * i + 1)) := rfl
          rw [eJ, joinV_congr (a' := rLf S (2 * i)) (b' := rLf S (2 * i + 1)) (fun t ht => by rw [hv _ _ ht, if_neg (by omega)]) (fun t ht => by rw [hv _ _ ht, if_neg (by omega)])]
          rfl
        · rw [if_neg e]
          have := hv i k hk
          unfold rLf at this
          rw [show (hs S' h' 65).2.2 18 = S'.2.2 18 from rfl, this]
          by_cases c : i < j
          · rw [if_pos c, if_pos (by omega)]
          · rw [if_neg c, if_neg (by omega)]
      · rw [eI]; exact p1
      · rw [eI, p2]
        refine ⟨q1, ?_⟩
        rw [q2]
        refine ⟨r1, ?_⟩
        unfold O_join_63
        rw [n_add]
        exact h
      · show B_join_2 N (L_join_2 N n) (nI m) (nI j) S' = _
        unfold B_join_2
        rw [if_neg hlt, eI, p2]
        show A_join_21 N (L_join_2 N n) (nI m) (nI j) (nI 0) (hs S' (upd (S'.2.1 6) 0 (nI 1)) (0 + 1)) (L_join_21 N N (nI m) (nI j) (nI 0) (hs S' (upd (S'.2.1 6) 0 (nI 1)) (0 + 1))) = _
        rw [q2]
        show L_join_2 N n (nI m) (nI j + nI 1) (f_keepLeaf N (hs S' h' 65) (nI j)) = _
        rw [n_add]) (m / 2) 0 N S (by omega) (by omega) ⟨rfr.refl, fun i k _ => by rw [if_neg (by omega)]⟩
  -- the last one, if their number is odd
  have emod : nI m - nI m / nI 2 * nI 2 = nI (m % 2) := n_mod (by omega) (by decide)
  have tail : (OL_join_71 N N (nI m) (nI 0) S2) ∧ ∃ S3, L_join_71 N N (nI m) (nI 0) S2 = (0, nI m, S3) ∧ rfr [6, 7, 8, 9, 18] S S3 ∧ ∀ i k, i < (m + 1) / 2 → k < 32 → rLf S3 i k = nextL (rLf S) m i k := by
    by_cases odd : m % 2 = 1
    · have co : nI m - nI m / nI 2 * nI 2 = nI 1 := by rw [emod, odd]
      obtain ⟨t1, S3, t2, lv, t3, t4⟩ := cloop (K := 4) (P := fun j S' => ∃ lv, S' = rsM S2 18 lv ∧ ∀ t, lv t = if 2 * (m - 1) ≤ t ∧ t < 2 * (m - 1) + j then S2.2.2 18 (4 * (m - 1) + (t - 2 * (m - 1))) else S2.2.2 18 t) (E := fun S' => (0, nI m, S')) (fun n x S' => OL_join_71 N n (nI m) x S') (fun n x S' => L_join_71 N n (nI m) x S')
        (fun n S' _ => ⟨⟨fun _ => ⟨fun _ => trivial, fun c => absurd (nI_le (Nat.le_refl _) (by decide)) c⟩, fun c => absurd co c⟩, by
          show B_join_71 N (L_join_71 N n) (nI m) (nI 4) S' = _
          unfold B_join_71
          rw [if_pos co, if_pos (nI_le (Nat.le_refl _) (by decide))]⟩)
        (fun n j S' hj hP => by
          obtain ⟨lv, rfl, hlv⟩ := hP
          have hlt : ¬ nI 4 ≤ nI j := nI_ge hj (by decide)
          have e0 : nI m - nI 1 = nI (m - 1) := n_sub (by omega)
          have e1 : nI 4 * nI (m - 1) + nI j = nI (4 * (m - 1) + j) := by rw [n_mul, n_add]
          have e2 : nI 2 * nI (m - 1) + nI j = nI (2 * (m - 1) + j) := by rw [n_mul, n_add]
          have e3 : (nI (4 * (m - 1) + j)).toNatClampNeg = 4 * (m - 1) + j := nI_clamp (by omega)
          have e4 : (nI (2 * (m - 1) + j)).toNatClampNeg = 2 * (m - 1) + j := nI_clamp (by omega)
          have er : lv (4 * (m - 1) + j) = S2.2.2 18 (4 * (m - 1) + j) := by
            rw [hlv]
            by_cases c : 2 * (m - 1) ≤ 4 * (m - 1) + j ∧ 4 * (m - 1) + j < 2 * (m - 1) + j
            · omega
            · rw [if_neg c]
          refine ⟨rsM S2 18 (vp_updL lv (2 * (m - 1) + j) (S2.2.2 18 (4 * (m - 1) + j))), ⟨_, rfl, fun t => ?_⟩, fun h => ⟨fun _ => ⟨fun c => absurd c hlt, fun _ => ⟨?_, ?_, ?_⟩⟩, fun c => absurd co c⟩, ?_⟩
          · by_cases e : t = 2 * (m - 1) + j
            · rw [e, updL_same, if_pos (by omega), show 2 * (m - 1) + j - 2 * (m - 1) = j by omega]
            · rw [updL_other _ _ e, hlv t]
              by_cases c : 2 * (m - 1) ≤ t ∧ t < 2 * (m - 1) + j
              · rw [if_pos c, if_pos (by omega)]
              · rw [if_neg c, if_neg (by omega)]
          · rw [e0, e1]; exact nI_in (by omega) (by decide)
          · rw [e0, e2]; exact nI_in (by omega) (by decide)
          · rw [e0, e1, e2, e3, e4, n_add, rsL_M, M_same, rsM_M, er]
            exact h
          · show B_join_71 N (L_join_71 N n) (nI m) (nI j) (rsM S2 18 lv) = _
            unfold B_join_71
            rw [if_pos co, if_neg hlt, e0, e1, e2, e3, e4, n_add, rsL_M, M_same, rsM_M, er]) 4 0 N S2 rfl (by omega) ⟨S2.2.2 18, (rsM_self _ _).symm, fun t => by rw [if_neg (by omega)]⟩
      refine ⟨t1, S3, t2, ?_, fun i k hi hk => ?_⟩
      · rw [t3]
        exact b3.trans ((rfr_M S2 18 lv).mono (by decide))
      · unfold nextL
        have e18 : rLf S3 i k = byt (lv (4 * i + k / 8)) (k % 8) := by
          unfold rLf
          rw [t3, M_same]
          exact lby_eq (by omega) (by omega)
        by_cases c : i < m / 2
        · rw [if_pos c, e18, t4, if_neg (by omega)]
          have := b4 i k hk
          rw [if_pos c] at this
          rw [← this]
          unfold rLf
          exact (lby_eq (by omega) (by omega)).symm
        · have ei : i = m / 2 := by omega
          rw [if_neg c, e18, t4, if_pos (by omega)]
          have := b4 (2 * i) k hk
          rw [if_neg (by omega)] at this
          rw [← this]
          unfold rLf
          exact (lby_eq (by omega) (by omega)).symm
    · have ce : ¬ nI m - nI m / nI 2 * nI 2 = nI 1 := by
        rw [emod]
        intro z
        exact odd (n_inj (by omega) (by decide) z)
      obtain ⟨n, hn⟩ := exs (show 0 < N by omega)
      refine ⟨?_, S2, ?_, b3, fun i k hi hk => ?_⟩
      · rw [show OL_join_71 N N = OL_join_71 N (n + 1) by rw [← hn]]
        exact ⟨fun c => absurd c ce, fun _ => trivial⟩
      · rw [show L_join_71 N N = L_join_71 N (n + 1) by rw [← hn]]
        show B_join_71 N (L_join_71 N n) (nI m) (nI 0) S2 = _
        unfold B_join_71
        rw [if_neg ce]
      · unfold nextL
        have c : i < m / 2 := by omega
        rw [if_pos c, b4 i k hk, if_pos c]
  obtain ⟨t1, S3, t2, t3, t4⟩ := tail
  have ef : f_join N S (nI m) = (nI ((m + 1) / 2), S3) := by
    show A_join_2 N (nI m) (nI 0) S (L_join_2 N N (nI m) (nI 0) S) = _
    rw [show L_join_2 N N (nI m) (nI 0) S = (0, nI m, S2) from b2]
    show A_join_71 N (nI m) (nI 0) S2 (L_join_71 N N (nI m) (nI 0) S2) = _
    rw [t2]
    show ((nI m + nI 1) / nI 2, S3) = _
    rw [n_add, n_div (by omega) (by decide)]
  rw [ef]
  refine ⟨⟨b1, ?_⟩, rfl, t3, t4⟩
  rw [show L_join_2 N N (nI m) (nI 0) S = (0, nI m, S2) from b2]
  refine ⟨t1, ?_⟩
  rw [t2]
  exact trivial
theorem root_loop {N : Nat} (hN : 100 ≤ N) : ∀ (m n : Nat) (S : rS), m ≤ 66 → m < n → rK S → OL_root__9 N n (nI m) S ∧ ∃ S', L_root__9 N n (nI m) S = (0, S') ∧ rfr [6, 7, 8, 9, 18] S S' ∧ ∀ k, k < 32 → rLf S' 0 k = topL (rLf S) m k := by
  intro m
  induction m using Nat.strongRecOn with
  | ind m ih =>
    intro n S hm hn hK
    obtain ⟨n, rfl⟩ := exs (show 0 < n by omega)
    by_cases h1 : m ≤ 1
    · have c : nI m ≤ nI 1 := nI_le h1 (by decide)
      refine ⟨⟨fun _ => trivial, fun c' => absurd c c'⟩, S, ?_, rfr.refl, fun k _ => by rw [topL_lo h1]⟩
      show B_root__9 N (L_root__9 N n) (nI m) S = _
      unfold B_root__9
      rw [if_pos c]
    · have c : ¬ nI m ≤ nI 1 := nI_ge (by omega) (by omega)
      obtain ⟨a1, a2, a3, a4⟩ := join_ok (N := N) (m := m) (S := S) hN hm hK
      obtain ⟨i1, S', i2, i3, i4⟩ := ih ((m + 1) / 2) (by omega) n (f_join N S (nI m)).2 (by omega) (by omega) (hK.fr a3 (by decide) (by decide))
      refine ⟨⟨fun c' => absurd c' c, fun _ => ⟨a1, ?_⟩⟩, S', ?_, a3.trans i3, fun k hk => ?_⟩
      · unfold O_root__19
        rw [a2]
        exact i1
      · show B_root__9 N (L_root__9 N n) (nI m) S = _
        unfold B_root__9 F_root__19
        rw [if_neg c, a2, i2]
      · rw [i4 k hk, topL_hi h1]
        exact topL_congr _ _ _ (fun i k hi hk => a4 i k (by omega) hk) k hk
/-- the parts that are laid: how many, where each ends -/
def rPt (S : rS) (c : Nat) (E : Nat → Nat) : Prop := S.1 17 = nI c ∧ c ≤ 66 ∧ (∀ p, p < c → S.2.1 16 p = nI (E p)) ∧ (∀ p, p < c → E p ≤ 600) ∧ ∀ p, p < c → (if p = 0 then 0 else E (p - 1)) ≤ E p
def ptB (E : Nat → Nat) (p : Nat) : Nat := if p = 0 then 0 else E (p - 1)
/-- the leaves of the parts -/
def ptL (b : Nat → Int32) (E : Nat → Nat) (p k : Nat) : Int32 := dig (leafV (fun i => b (ptB E p + i) &&& nI 255) (E p - ptB E p)) k
theorem partFrom_ok {N c p : Nat} {E : Nat → Nat} {S : rS} (h : rPt S c E) (hp : p < c) : o_partFrom N S (nI p) ∧ f_partFrom N S (nI p) = nI (ptB E p) := by
  obtain ⟨h1, h2, h3, h4, h5⟩ := h
  by_cases e : p = 0
  · subst e
    exact ⟨⟨fun _ => trivial, fun c => absurd (show nI 0 = 0 by decide) c⟩, rfl⟩
  · have c0 : ¬ nI p = 0 := nI_ne0 (by omega) (by omega)
    have e1 : nI p - nI 1 = nI (p - 1) := n_sub (by omega)
    refine ⟨⟨fun c => absurd c c0, fun _ => ⟨by rw [e1]; exact nI_in (by omega) (by decide), trivial⟩⟩, ?_⟩
    show (if nI p = 0 then _ else _) = _
    rw [if_neg c0]
    show S.2.1 16 (nI p - nI 1).toNatClampNeg = _
    rw [e1, nI_clamp (by omega), h3 (p - 1) (by omega)]
    unfold ptB
    rw [if_neg e]
theorem leaves_ok {N c : Nat} {E : Nat → Nat} {S : rS} (hN : 1000 ≤ N) (h : rPt S c E) (hK : rK S) : o_leavesOf N S ∧ rfr [6, 7, 8, 9, 18] S (f_leavesOf N S) ∧ ∀ p k, p < c ∨ p = 0 → k < 32 → rLf (f_leavesOf N S) p k = if c = 0 then nI 0 else ptL (S.2.1 15) E p k := by
  obtain ⟨z1, Sz, z2, lz, z3, z4⟩ := cloop (K := 4) (P := fun j S' => ∃ lv, S' = rsM S 18 lv ∧ ∀ t, lv t = if t < j then 0 else S.2.2 18 t) (E := fun S' => (0, S')) (fun n x S' => OL_leavesOf_2 N n x S') (fun n x S' => L_leavesOf_2 N n x S')
    (fun n S' _ => ⟨⟨fun _ => trivial, fun c => absurd (nI_le (Nat.le_refl _) (by decide)) c⟩, by
      show B_leavesOf_2 N (L_leavesOf_2 N n) (nI 4) S' = _
      unfold B_leavesOf_2
      rw [if_pos (nI_le (Nat.le_refl _) (by decide))]⟩)
    (fun n j S' hj hP => by
      obtain ⟨lv, rfl, hlv⟩ := hP
      have hlt : ¬ nI 4 ≤ nI j := nI_ge hj (by decide)
      have cj : (nI j).toNatClampNeg = j := nI_clamp (by omega)
      refine ⟨rsM S 18 (vp_updL lv j 0), ⟨_, rfl, fun t => ?_⟩, fun h => ⟨fun c => absurd c hlt, fun _ => ⟨nI_in (by omega) (by decide), ?_⟩⟩, ?_⟩
      · by_cases e : t = j
        · rw [e, updL_same, if_pos (by omega)]
        · rw [updL_other _ _ e, hlv t]
          by_cases c : t < j
          · rw [if_pos c, if_pos (by omega)]
          · rw [if_neg c, if_neg (by omega)]
      · rw [cj, n_add, rsL_M, M_same, rsM_M]
        exact h
      · show B_leavesOf_2 N (L_leavesOf_2 N n) (nI j) (rsM S 18 lv) = _
        unfold B_leavesOf_2
        rw [if_neg hlt, cj, n_add, rsL_M, M_same, rsM_M]) 4 0 N S rfl (by omega) ⟨S.2.2 18, (rsM_self _ _).symm, fun t => by rw [if_neg (by omega)]⟩
  have fz : rfr [6, 7, 8, 9, 18] S Sz := by rw [z3]; exact (rfr_M S 18 lz).mono (by decide)
  have vz : ∀ k, k < 32 → rLf Sz 0 k = nI 0 := fun k hk => by
    unfold rLf
    rw [z3, M_same, lby_eq (a := k / 8) (b := k % 8) (by omega) (by omega), z4, if_pos (by omega)]
    rcases k8 (Nat.mod_lt k (show 0 < 8 by decide)) with e | e | e | e | e | e | e | e <;> rw [e] <;> decide
  have h17 : ∀ S', rfr [6, 7, 8, 9, 18] S S' → rPt S' c E ∧ S'.2.1 15 = S.2.1 15 := fun S' hf => by
    obtain ⟨h1, h2, h3, h4, h5⟩ := h
    exact ⟨⟨by rw [hf.i 17 (by decide)]; exact h1, h2, fun p hp => by rw [hf.a 16 (by decide)]; exact h3 p hp, h4, h5⟩, hf.a 15 (by decide)⟩
  obtain ⟨b1, S2, b2, b3, b4⟩ := cloop (K := c) (P := fun j S' => rfr [6, 7, 8, 9, 18] S S' ∧ (∀ p k, p < j → k < 32 → rLf S' p k = ptL (S.2.1 15) E p k) ∧ (j = 0 → S' = Sz)) (E := fun S' => (0, S')) (fun n x S' => OL_leavesOf_22 N n x S') (fun n x S' => L_leavesOf_22 N n x S')
    (fun n S' hP => by
      have e17 : S'.1 17 = nI c := (h17 S' hP.1).1.1
      have hc := h.2.1
      refine ⟨⟨fun _ => trivial, fun c' => absurd (by rw [e17]; exact nI_le (Nat.le_refl _) (by omega)) c'⟩, ?_⟩
      show B_leavesOf_22 N (L_leavesOf_22 N n) (nI c) S' = _
      unfold B_leavesOf_22
      rw [if_pos (by rw [e17]; exact nI_le (Nat.le_refl _) (by omega))])
    (fun n j S' hj hP => by
      obtain ⟨hf, hv, -⟩ := hP
      have hc := h.2.1
      obtain ⟨hp, h15⟩ := h17 S' hf
      have hlt : ¬ S'.1 17 ≤ nI j := by rw [hp.1]; exact nI_ge hj (by omega)
      have eI : rsI S' 7 (nI 0) = hs S' (S'.2.1 6) 0 := by unfold hs; rw [rsW_self]
      obtain ⟨p1, p2⟩ := hashByte_hs (N := N) (S := S') (h := S'.2.1 6) (n := 0) (nI 0) (by decide)
      rw [show nI 0 &&& nI 255 = nI 0 by decide] at p2
      have hpB : rPt (hs S' (upd (S'.2.1 6) 0 (nI 0)) 1) c E := by
        obtain ⟨q1, q2, q3, q4, q5⟩ := hp
        refine ⟨?_, q2, fun p hp => ?_, q4, q5⟩
        · rw [(rfr_hs S' (upd (S'.2.1 6) 0 (nI 0)) 1).i 17 (by decide)]; exact q1
        · rw [(rfr_hs S' (upd (S'.2.1 6) 0 (nI 0)) 1).a 16 (by decide)]; exact q3 p hp
      obtain ⟨f1, f2⟩ := partFrom_ok (N := N) hpB hj
      have hle : ptB E j ≤ E j := h.2.2.2.2 j hj
      have hE : E j ≤ 600 := h.2.2.2.1 j hj
      obtain ⟨l1, S3, l2, h', l3, l4⟩ := cloop (K := E j) (P := fun i S1 => ∃ h', S1 = hs S' h' (i - ptB E j + 1) ∧ ptB E j ≤ i ∧ ∀ t, t < i - ptB E j + 1 → h' t = catB (nI 0) (fun t => S.2.1 15 (ptB E j + t) &&& nI 255) t) (E := fun S1 => (0, nI j, S1)) (fun n x S1 => OL_leavesOf_46 N n (nI j) x S1) (fun n x S1 => L_leavesOf_46 N n (nI j) x S1)
        (fun n S1 hP1 => by
          obtain ⟨h', rfl, -, -⟩ := hP1
          have e16 : (hs S' h' (E j - ptB E j + 1)).2.1 16 (nI j).toNatClampNeg = nI (E j) := by rw [nI_clamp (by omega), hs_A _ _ _ (by decide)]; exact hp.2.2.1 j hj
          refine ⟨⟨nI_in (by omega) (by decide), fun _ => trivial, fun c' => absurd (by rw [e16]; exact nI_le (Nat.le_refl _) (by omega)) c'⟩, ?_⟩
          show B_leavesOf_46 N (L_leavesOf_46 N n) (nI j) (nI (E j)) (hs S' h' (E j - ptB E j + 1)) = _
          unfold B_leavesOf_46
          rw [if_pos (by rw [e16]; exact nI_le (Nat.le_refl _) (by omega))])
        (fun n i S1 hi hP1 => by
          obtain ⟨h', rfl, hb, hc1⟩ := hP1
          have e16 : (hs S' h' (i - ptB E j + 1)).2.1 16 (nI j).toNatClampNeg = nI (E j) := by rw [nI_clamp (by omega), hs_A _ _ _ (by decide)]; exact hp.2.2.1 j hj
          have hlt2 : ¬ (hs S' h' (i - ptB E j + 1)).2.1 16 (nI j).toNatClampNeg ≤ nI i := by rw [e16]; exact nI_ge hi (by omega)
          have ci : (nI i).toNatClampNeg = i := nI_clamp (by omega)
          have e15 : (hs S' h' (i - ptB E j + 1)).2.1 15 = S.2.1 15 := by rw [hs_A _ _ _ (by decide), h15]
          obtain ⟨r1, r2⟩ := hashByte_hs (N := N) (S := S') (h := h') (n := i - ptB E j + 1) (S.2.1 15 i) (by omega)
          refine ⟨hs S' (upd h' (i - ptB E j + 1) (S.2.1 15 i &&& nI 255)) (i + 1 - ptB E j + 1), ⟨_, rfl, by omega, fun t ht => ?_⟩, fun hh => ⟨nI_in (by omega) (by decide), fun c' => absurd c' hlt2, fun _ => ⟨nI_in (by omega) (by decide), ?_, ?_⟩⟩, ?_⟩
          · by_cases e : t = i - ptB E j + 1
            · subst e
              rw [upd_same]
              unfold catB
              rw [if_neg (by omega)]
              show S.2.1 15 i &&& nI 255 = S.2.1 15 (ptB E j + (i - ptB E j + 1 - 1)) &&& nI 255
              rw [show ptB E j + (i - ptB E j + 1 - 1) = i by omega]
            · rw [upd_other _ _ e]
              exact hc1 t (by omega)
          · rw [ci, e15]; exact r1
          · unfold O_leavesOf_66
            rw [ci, e15, r2, n_add, show i - ptB E j + 1 + 1 = i + 1 - ptB E j + 1 by omega]
            exact hh
          · show B_leavesOf_46 N (L_leavesOf_46 N n) (nI j) (nI i) (hs S' h' (i - ptB E j + 1)) = _
            unfold B_leavesOf_46 F_leavesOf_66
            rw [if_neg hlt2, ci, e15, r2, n_add, show i - ptB E j + 1 + 1 = i + 1 - ptB E j + 1 by omega]) (E j - ptB E j) (ptB E j) N (hs S' (upd (S'.2.1 6) 0 (nI 0)) 1) (by omega) (by omega) ⟨_, by rw [Nat.sub_self], Nat.le_refl _, fun t ht => by
              have e : t = 0 := by omega
              subst e
              exact upd_same _ _ _⟩
      obtain ⟨-, l4⟩ := l4
      have hK2 : rK S3 := by
        rw [l3]
        exact (hK.fr hf (by decide) (by decide)).fr (rfr_hs S' h' _) (by decide) (by decide)
      obtain ⟨r1, r2, r3⟩ := keep_ok (N := N) (l := E j - ptB E j + 1) (k := j) (S := S3) (f := catB (nI 0) (fun t => S.2.1 15 (ptB E j + t) &&& nI 255)) (by omega) (by omega) (by omega) (by rw [l3]; exact hs_7 _ _ _) (fun i hi => by rw [l3, hs_6]; exact l4 i hi) hK2
      have f3 : rfr [6, 7, 8, 9, 18] S' S3 := by rw [l3]; exact (rfr_hs S' h' _).mono (by decide)
      refine ⟨f_keepLeaf N S3 (nI j), ⟨(hf.trans f3).trans r2, fun p k hp hk => ?_, fun e => absurd e (by omega)⟩, fun hh => ⟨fun c' => absurd c' hlt, fun _ => ⟨?_, ?_⟩⟩, ?_⟩
      · unfold rLf
        rw [r3 p k hk]
        by_cases e : p = j
        · rw [if_pos e, e]
          rfl
        · rw [if_neg e]
          have := hv p k (by omega) hk
          unfold rLf at this
          rw [← this, l3]
          rfl
      · rw [eI]; exact p1
      · rw [eI, p2]
        refine ⟨f1, ?_⟩
        rw [f2]
        refine ⟨l1, ?_⟩
        rw [show L_leavesOf_46 N N (nI j) (nI (ptB E j)) (hs S' (upd (S'.2.1 6) 0 (nI 0)) (0 + 1)) = (0, nI j, S3) from l2]
        refine ⟨r1, ?_⟩
        unfold O_leavesOf_77
        rw [n_add]
        exact hh
      · show B_leavesOf_22 N (L_leavesOf_22 N n) (nI j) S' = _
        unfold B_leavesOf_22
        rw [if_neg hlt, eI, p2]
        unfold F_leavesOf_40
        rw [f2, show L_leavesOf_46 N N (nI j) (nI (ptB E j)) (hs S' (upd (S'.2.1 6) 0 (nI 0)) (0 + 1)) = (0, nI j, S3) from l2]
        show L_leavesOf_22 N n (nI j + nI 1) (f_keepLeaf N S3 (nI j)) = _
        rw [n_add]) c 0 N Sz (by omega) (by have := h.2.1; omega) ⟨fz, fun p k hp => by omega, fun _ => rfl⟩
  have ef : f_leavesOf N S = S2 := by
    show F_leavesOf_20 N (L_leavesOf_2 N N (nI 0) S).2 = _
    rw [show L_leavesOf_2 N N (nI 0) S = (0, Sz) from z2]
    show (L_leavesOf_22 N N (nI 0) Sz).2 = _
    rw [show L_leavesOf_22 N N (nI 0) Sz = (0, S2) from b2]
  rw [ef]
  refine ⟨⟨z1, ?_⟩, b3, fun p k hp hk => ?_⟩
  · rw [show L_leavesOf_2 N N (nI 0) S = (0, Sz) from z2]
    exact ⟨b1, trivial⟩
  · by_cases e : c = 0
    · rw [if_pos e, b4.2 e]
      have e0 : p = 0 := by omega
      rw [e0]
      exact vz k hk
    · rw [if_neg e]
      exact b4.1 p k (by omega) hk
/-- the root of the parts -/
def rootB (b : Nat → Int32) (E : Nat → Nat) (c k : Nat) : Int32 := if c = 0 then nI 0 else topL (ptL b E) c k
theorem root_ok {N c : Nat} {E : Nat → Nat} {S : rS} (hN : 1000 ≤ N) (h : rPt S c E) (hK : rK S) : o_root_ N S ∧ rfr [6, 7, 8, 9, 18] S (f_root_ N S) ∧ ∀ k, k < 32 → lby ((f_root_ N S).2.2 18) k = rootB (S.2.1 15) E c k := by
  obtain ⟨a1, a2, a3⟩ := leaves_ok hN h hK
  have e17 : (f_leavesOf N S).1 17 = nI c := by rw [a2.i 17 (by decide)]; exact h.1
  have hc := h.2.1
  obtain ⟨b1, S', b2, b3, b4⟩ := root_loop (N := N) (by omega) c N (f_leavesOf N S) hc (by omega) (hK.fr a2 (by decide) (by decide))
  have ef : f_root_ N S = S' := by
    show (L_root__9 N N ((f_leavesOf N S).1 17) (f_leavesOf N S)).2 = _
    rw [e17, b2]
  rw [ef]
  refine ⟨⟨a1, ?_⟩, a2.trans b3, fun k hk => ?_⟩
  · show OL_root__9 N N ((f_leavesOf N S).1 17) (f_leavesOf N S) ∧ _
    rw [e17]
    exact ⟨b1, trivial⟩
  · have := b4 k hk
    unfold rLf at this
    rw [Nat.mul_zero, Nat.zero_add] at this
    rw [this]
    unfold rootB
    by_cases e : c = 0
    · rw [if_pos e, topL_lo (by omega)]
      have := a3 0 k (Or.inr rfl) hk
      rw [if_pos e] at this
      exact this
    · rw [if_neg e]
      exact topL_congr c _ _ (fun i k hi hk => by have := a3 i k hi hk; rw [if_neg e] at this; exact this) k hk
