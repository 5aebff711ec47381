/-! telling the free one at a place, and its place -/
theorem k_ways_b0 : ∀ l : Fin 11, ∀ o : Fin 11, (l : Nat) + (o : Nat) ≤ 10 → k_ways l o ≤ 16796 := by decide +kernel
theorem k_ways_b {l o : Nat} (h : l + o ≤ 10) : 0 ≤ k_ways l o ∧ k_ways l o ≤ 16796 := ⟨k_ways_pos l o, k_ways_b0 ⟨l, by omega⟩ ⟨o, by omega⟩ h⟩
theorem o_W_mono (l : Nat) : ∀ (m t : Nat), t ≤ m → o_W l t ≤ o_W l m
  | 0, t, h => by rw [show t = 0 by omega]; exact Int.le_refl _
  | m + 1, t, h => by
    by_cases e : t = m + 1
    · rw [e]; exact Int.le_refl _
    · have := o_W_mono l m t (by omega)
      have := k_ways_pos l (m + 1)
      rw [o_W_S]; omega
theorem o_drop {R r : List Int} {k : Nat} {x : Int} (h : R.drop k = x :: r) : R.getD k 0 = x ∧ R.drop (k + 1) = r := by
  constructor
  · have : (R.drop k)[0]? = R[k + 0]? := List.getElem?_drop
    rw [h] at this
    rw [List.getD_eq_getElem?_getD, ← show k + 0 = k from rfl, ← this]
    rfl
  · rw [← List.drop_drop, h]
    rfl
theorem o_tell_S {l k : Nat} {S R : List Int} {f : Int} {j t j' : Nat} (h : (o_cp (l + 1) S f)[j]? = some (R.drop k)) (ht : t ≤ S.length) (hj : (j : Int) = o_W l t + (j' : Int)) (hj' : (j' : Int) < k_ways l (t + 1)) : R.getD k 0 = (S ++ [f]).getD t 0 ∧ (o_cp l ((S ++ [f]).take (t + 1)) (if t < S.length then f else f + 1))[j']? = some (R.drop (k + 1)) := by
  have hw := o_W_nn l t
  have e := o_at (l := l) (S := S) (f := f) ht hj'
  rw [show (o_W l t).toNat + j' = j by omega, h] at e
  obtain ⟨r, e1, e2⟩ := o_br_some e.symm
  obtain ⟨e3, e4⟩ := o_drop e1
  rw [e4]
  exact ⟨e3, e2⟩
def o_sk (W : am_V) (S : List Int) : Prop := ∀ t : Nat, t < S.length → W 29 t = S.getD t 0
theorem o_sk_S {W W' : am_V} {S : List Int} {f : Int} {t : Nat} (h : o_sk W S) (ht : t ≤ S.length) (e1 : W' 29 t = (S ++ [f]).getD t 0) (e2 : ∀ i : Nat, i < t → W' 29 i = W 29 i) : o_sk W' ((S ++ [f]).take (t + 1)) := by
  intro i hi
  rw [o_tk ht] at hi
  rw [List.getD_eq_getElem?_getD, List.getElem?_take, if_pos hi, ← List.getD_eq_getElem?_getD]
  by_cases q : i = t
  · rw [q]; exact e1
  · rw [e2 i (by omega), h i (by omega), o_ex_lt (by omega)]
theorem s_O_tell {G : am_G} {d : Nat} {sh : Int → Option Nat} {V : am_V} {T : Nat} {Q : Option AV → am_V → am_T → Nat → Prop} {n i : Int} {R : List Int} (h1 : 1 ≤ n ∧ n ≤ 10) (hi : 0 ≤ i ∧ i < 16796) (hw : ∀ l o, 0 ≤ l → 0 ≤ o → l + o ≤ 10 → V 17 (64 * l + o) = k_ways l.toNat o.toNat) (hR : (o_L n)[i.toNat]? = some R) (hQ : ∀ V', (∀ a, a ≠ 29 → a ≠ 30 → V' a = V a) → (∀ j, 0 ≤ j → j < n → V' 30 j = R.getD j.toNat 0) → Q none V' (am_RF sh) T) : am_Calls G (d + 1) 147 [vR 16, vI n, vI i, vR 30] V (am_RF sh) T Q := by
  refine am_enter mt_O_tell ok_O_tell rfl ?_
  have loop : ∀ (jj : Nat) (k rest o f : Int) (S : List Int) (x8 : Option AV) (W : am_V), 0 ≤ k → k ≤ n → n - k < jj → (0 ≤ rest ∧ rest < 16796) → o = S.length → o ≤ k → (∀ a, a ≠ 29 → a ≠ 30 → W a = V a) → o_sk W S → (∀ j, 0 ≤ j → j < k → W 30 j = R.getD j.toNat 0) → (o_cp (n - k).toNat S f)[rest.toNat]? = some (R.drop k.toNat) → am_Sem G d 147 V T Q 12 [some (vR 16), some (vI n), some (vI i), some (vR 30), some (vI rest), some (vI o), some (vI f), some (vI k), x8] [] W (am_RF sh) T 0 0 := by
    intro jj
    induction jj with
    | zero => intro k rest o f S x8 W a b c; omega
    | succ jj ih =>
      intro k rest o f S x8 W a b c hre ho hok w1 w2 w3 w4
      by_cases hkn : k = n
      · subst hkn
        refine am_run 400 mt_O_tell ok_O_tell (fun K S hK hS => ?_)
        iterate 30 (all_goals (first
          | (refine And.intro (by omega) ?_)
          | (refine And.intro (fun hb => absurd hb (by omega)) (fun hb => ?_))
          | (refine And.intro (fun hb => ?_) (fun hb => absurd hb (by omega)))
          | (refine And.intro (fun hb => ?_) (fun hb => ?_))
          | (intro hb)
          | (conv => whnf)))
        exact hQ W w1 w3
      obtain ⟨l, hl⟩ : ∃ l : Nat, (n - k).toNat = l + 1 := ⟨(n - k).toNat - 1, by omega⟩
      rw [hl] at w4
      have hlen : (rest.toNat : Int) < o_W l (S.length + 1) := by
        have z := (List.getElem?_eq_some_iff.mp w4).1
        have z2 := o_len (l + 1) S f
        rw [k_ways_S] at z2
        omega
      have e17 : ∀ t : Nat, l + t ≤ 10 → W 17 (64 * (n - 1 - k) + t) = k_ways l t := fun t ht => by
        rw [w1 17 (by decide) (by decide), hw (n - 1 - k) t (by omega) (by omega) (by omega), show (n - 1 - k).toNat = l by omega, show (t : Int).toNat = t by omega]
      have inner : ∀ (j2 : Nat) (t : Nat) (r : Int), t ≤ S.length → S.length - t < j2 → 0 ≤ r → rest = o_W l t + r → am_Sem G d 147 V T Q 21 [some (vR 16), some (vI n), some (vI i), some (vR 30), some (vI r), some (vI o), some (vI f), some (vI k), some (vI t)] [] W (am_RF sh) T 0 0 := by
        intro j2
        induction j2 with
        | zero => intro t r q1 q2; omega
        | succ j2 ih2 =>
          intro t r q1 q2 q3 q4
          have wt := o_W_nn l t
          by_cases ht : t = S.length
          · subst ht
            have hlt : r < k_ways l (S.length + 1) := by rw [o_W_S] at hlen; omega
            obtain ⟨s1, s2⟩ := o_tell_S (j' := r.toNat) w4 q1 (by omega) (by omega)
            rw [if_neg (Nat.lt_irrefl _)] at s2
            rw [o_ex_eq] at s1
            have a1 : am_up W 29 S.length f 29 S.length = f := by rw [am_up_at, if_pos rfl]
            have nx := ih (k + 1) r (S.length + 1) (f + 1) _ (some (vI S.length)) (am_up (am_up W 29 S.length f) 30 k f) (by omega) (by omega) (by omega) (by omega) (by rw [o_tk q1]; rfl) (by omega) (fun a b c => by rw [am_up_ne c, am_up_ne b, w1 a b c]) (o_sk_S (f := f) w2 q1 (by rw [am_up_ne (by decide), a1, o_ex_eq]) (fun i hi => by rw [am_up_ne (by decide), am_up_at, if_neg (by omega)])) (fun j b c => by
              rw [am_up_at]
              by_cases z : j = k
              · rw [if_pos z, z]; exact s1.symm
              · rw [if_neg z, am_up_ne (by decide)]; exact w3 j b (by omega)) (by rw [show (n - (k + 1)).toNat = l by omega, show (k + 1).toNat = k.toNat + 1 by omega]; exact s2)
            subst ho
            clear hlen w4 s1 s2 hR ih ih2 w3 w2
            refine am_run 400 mt_O_tell ok_O_tell (fun K S hK hS => ?_)
            iterate 30 (all_goals (first
              | (refine And.intro (by omega) ?_)
              | (refine And.intro (by decide) ?_)
              | (refine And.intro (fun hb => absurd hb (by omega)) (fun hb => ?_))
              | (refine And.intro (fun hb => ?_) (fun hb => absurd hb (by omega)))
              | (refine And.intro (fun hb => ?_) (fun hb => ?_))
              | (intro hb)
              | (simp only [a1])
              | (conv => whnf)))
            exact hS nx
          · have ew := e17 (t + 1) (by omega)
            have kb := k_ways_b (l := l) (o := t + 1) (by omega)
            rw [show (((t + 1 : Nat)) : Int) = (t : Int) + 1 by omega] at ew
            by_cases hlt : r < k_ways l (t + 1)
            · obtain ⟨s1, s2⟩ := o_tell_S (j' := r.toNat) w4 q1 (by omega) (by omega)
              rw [if_pos (by omega)] at s2
              rw [o_ex_lt (by omega)] at s1
              have wt2 := w2 t (by omega)
              have nx := ih (k + 1) r (t + 1) f _ (some (vI t)) (am_up W 30 k (W 29 t)) (by omega) (by omega) (by omega) (by omega) (by rw [o_tk q1]; rfl) (by omega) (fun a b c => by rw [am_up_ne c, w1 a b c]) (o_sk_S (f := f) w2 q1 (by rw [am_up_ne (by decide), wt2, o_ex_lt (by omega)]) (fun i hi => by rw [am_up_ne (by decide)])) (fun j b c => by
                rw [am_up_at]
                by_cases z : j = k
                · rw [if_pos z, z, wt2]; exact s1.symm
                · rw [if_neg z]; exact w3 j b (by omega)) (by rw [show (n - (k + 1)).toNat = l by omega, show (k + 1).toNat = k.toNat + 1 by omega]; exact s2)
              obtain ⟨kw, hkw⟩ : ∃ kw, kw = k_ways l (t + 1) := ⟨_, rfl⟩
              rw [← hkw] at ew kb hlt
              clear hlen w4 s1 s2 hR ih ih2 w3 w2 hkw e17
              refine am_run 400 mt_O_tell ok_O_tell (fun K S hK hS => ?_)
              iterate 30 (all_goals (first
                | (refine And.intro (by omega) ?_)
                | (refine And.intro (by decide) ?_)
                | (refine And.intro (fun hb => absurd hb (by omega)) (fun hb => ?_))
                | (refine And.intro (fun hb => ?_) (fun hb => absurd hb (by omega)))
                | (refine And.intro (fun hb => ?_) (fun hb => ?_))
                | (intro hb)
                | (simp only [ew])
                | (conv => whnf)))
              exact hS nx
            · have nx := ih2 (t + 1) (r - k_ways l (t + 1)) (by omega) (by omega) (by omega) (by rw [o_W_S]; omega)
              rw [show (((t + 1 : Nat)) : Int) = (t : Int) + 1 by omega] at nx
              obtain ⟨kw, hkw⟩ : ∃ kw, kw = k_ways l (t + 1) := ⟨_, rfl⟩
              rw [← hkw] at ew kb hlt nx
              clear hlen w4 hR ih ih2 w3 w2 hkw e17
              refine am_run 400 mt_O_tell ok_O_tell (fun K S hK hS => ?_)
              iterate 30 (all_goals (first
                | (refine And.intro (by omega) ?_)
                | (refine And.intro (by decide) ?_)
                | (refine And.intro (fun hb => absurd hb (by omega)) (fun hb => ?_))
                | (refine And.intro (fun hb => ?_) (fun hb => absurd hb (by omega)))
                | (refine And.intro (fun hb => ?_) (fun hb => ?_))
                | (intro hb)
                | (simp only [ew])
                | (conv => whnf)))
              exact hS nx
      have nx := inner (S.length + 1) 0 rest (by omega) (by omega) (by omega) (by show rest = 0 + rest; omega)
      refine am_run 400 mt_O_tell ok_O_tell (fun K S hK hS => ?_)
      iterate 30 (all_goals (first
        | (refine And.intro (by omega) ?_)
        | (refine And.intro (fun hb => absurd hb (by omega)) (fun hb => ?_))
        | (refine And.intro (fun hb => ?_) (fun hb => absurd hb (by omega)))
        | (refine And.intro (fun hb => ?_) (fun hb => ?_))
        | (intro hb)
        | (conv => whnf)))
      exact hS nx
  have nx := loop (n + 1).toNat 0 i 0 0 [] none V (by omega) (by omega) (by omega) hi rfl (by omega) (fun _ _ _ => rfl) (fun t ht => absurd ht (Nat.not_lt_zero _)) (fun j b c => by omega) (by rw [show n - 0 = n by omega]; exact hR)
  refine am_run 400 mt_O_tell ok_O_tell (fun K S hK hS => ?_)
  iterate 30 (all_goals (first
    | (refine And.intro (by omega) ?_)
    | (refine And.intro (fun hb => absurd hb (by omega)) (fun hb => ?_))
    | (refine And.intro (fun hb => ?_) (fun hb => absurd hb (by omega)))
    | (refine And.intro (fun hb => ?_) (fun hb => ?_))
    | (intro hb)
    | (conv => whnf)))
  exact hS nx
theorem s_O_placeOf {G : am_G} {d : Nat} {sh : Int → Option Nat} {V : am_V} {T : Nat} {Q : Option AV → am_V → am_T → Nat → Prop} {a : Nat} {n i : Int} (ha : th_pl a) (ok : th_ok V a n) (hw : ∀ l o, 0 ≤ l → 0 ≤ o → l + o ≤ 10 → V 17 (64 * l + o) = k_ways l.toNat o.toNat) (hi : o_is (V (a + 1)) n i) (hQ : ∀ V', (∀ x, x ≠ 29 → V' x = V x) → Q (some (vI i)) V' (am_RF sh) T) : am_Calls G (d + 1) 146 [vR 16, vR a] V (am_RF sh) T Q := by
  obtain ⟨o1, h1, o3, -⟩ := ok
  have hi1 : 0 ≤ i ∧ i < 16796 := by
    have := o_is_lt hi
    have := (k_ways_b (l := n.toNat) (o := 0) (by omega)).2
    omega
  obtain ⟨R, eR⟩ : ∃ R, R = o_tl (V (a + 1)) 0 n.toNat := ⟨_, rfl⟩
  have hR : (o_L n)[i.toNat]? = some R := by rw [eR]; exact hi.2
  have gR : ∀ k, 0 ≤ k → k < n → R.getD k.toNat 0 = V (a + 1) k := fun k b c => by
    rw [eR, o_tl_get _ _ _ _ (by omega), show (0 : Int) + (k.toNat : Int) = k by omega]
  have rg : ∀ k, 0 ≤ k → k < n → 0 ≤ V (a + 1) k ∧ V (a + 1) k ≤ 9 := fun k b c => by have := m_rgs_lt o3 b c; omega
  clear hi eR
  have a107 := ha.1
  have a_0 : 107 ≤ a := ha.1
  have a_l := th_lay ha
  have a_b := th_ble ha
  have a_q := th_beq ha
  have a_m := th_lay1 ha
  have a_c := th_ble1 ha
  have a_r := th_beq1 ha
  have a_R : am_RF sh a 2 = some (a + 1) := th_RF ha
  have a_z : Nat.beq (a + 1) 0 = false := rfl
  have a_3 : Nat.ble 3 (a + 1) = true := th_ble3 ha
  have a_i : ∀ r, am_isr 3 (vR a :: r) = true := th_isr ha
  refine am_enter mt_O_placeOf ok_O_placeOf rfl ?_
  have loop : ∀ (jj : Nat) (k pl o f : Int) (j : Nat) (S : List Int) (x5 : Option AV) (W : am_V), 0 ≤ k → k ≤ n → n - k < jj → 0 ≤ pl → pl + j = i → o = S.length → o ≤ k → (∀ x, x ≠ 29 → W x = V x) → o_sk W S → o_inc S f → (∀ x, x ∈ S → 0 ≤ x ∧ x ≤ 9) → (o_cp (n - k).toNat S f)[j]? = some (R.drop k.toNat) → am_Sem G d 146 V T Q 7 [some (vR 16), some (vR a), some (vI pl), some (vI o), some (vI k), x5] [] W (am_RF sh) T 0 0 := by
    intro jj
    induction jj with
    | zero => intro k pl o f j S x5 W a b c; omega
    | succ jj ih =>
      intro k pl o f j S x5 W b0 b1 c hpl hj ho hok w1 w2 w3 w5 w4
      have ea : W a 0 = n := by rw [w1 a (by omega)]; exact o1
      by_cases hkn : k = n
      · subst hkn
        have : j = 0 := by
          have z := (List.getElem?_eq_some_iff.mp w4).1
          rw [show (k - k).toNat = 0 by omega] at z
          have z : j < 1 := z
          omega
        have q := hQ W w1
        rw [← show pl = i by omega] at q
        clear hQ w2 w3 w4 w5 ih hR gR
        refine am_run 400 mt_O_placeOf ok_O_placeOf (fun K S hK hS => ?_)
        iterate 30 (all_goals (first
          | (refine And.intro (by omega) ?_)
          | (refine And.intro (by decide) ?_)
          | (refine And.intro (fun hb => absurd hb (by omega)) (fun hb => ?_))
          | (refine And.intro (fun hb => ?_) (fun hb => absurd hb (by omega)))
          | (refine And.intro (fun hb => ?_) (fun hb => ?_))
          | (intro hb)
          | (refine am_if_mk (a_i _) ?_)
          | (simp only [a_l, a_b, a_q, a_m, a_c, a_r, a_R, a_z, a_3, ea])
          | (conv => whnf)))
        exact q
      obtain ⟨l, hl⟩ : ∃ l : Nat, (n - k).toNat = l + 1 := ⟨(n - k).toNat - 1, by omega⟩
      rw [hl] at w4
      obtain ⟨ts, j', ht, hjt, hj', hbr⟩ := o_inbr w4
      obtain ⟨s1, s2⟩ := o_tell_S w4 ht hjt hj'
      rw [gR k b0 (by omega)] at s1
      have ek : W (a + 1) k = V (a + 1) k := by rw [w1 (a + 1) (by omega)]
      have rk := rg k b0 (by omega)
      have e17 : ∀ t : Nat, l + t ≤ 10 → W 17 (64 * (n - 1 - k) + t) = k_ways l t := fun t ht => by
        rw [w1 17 (by decide), hw (n - 1 - k) t (by omega) (by omega) (by omega), show (n - 1 - k).toNat = l by omega, show (t : Int).toNat = t by omega]
      have wmx : ∀ t : Nat, t ≤ ts → o_W l t ≤ o_W l ts := fun t q => o_W_mono l ts t q
      have nx0 := ih (k + 1) (pl + o_W l ts) (ts + 1) _ j' _ (some (vI ts)) (am_up W 29 ts (V (a + 1) k)) (by omega) (by omega) (by omega) (by have := o_W_nn l ts; omega) (by omega) (by rw [o_tk ht]; rfl) (by omega) (fun x b => by rw [am_up_ne b, w1 x b]) (o_sk_S (f := f) w2 ht (by rw [am_up_at, if_pos rfl]; exact s1) (fun i hi => by rw [am_up_at, if_neg (by omega)])) (o_inc_S w3) (fun x hx => by
        obtain ⟨y, hy, ey⟩ := o_take_mem ht hx
        by_cases z : y = ts
        · rw [← ey, z, ← s1]; exact rk
        · rw [o_ex_lt (by omega)] at ey
          rw [← ey]
          exact w5 _ (o_getD_mem (by omega))) (by rw [show (n - (k + 1)).toNat = l by omega, show (k + 1).toNat = k.toNat + 1 by omega]; exact s2)
      have inner : ∀ (j2 : Nat) (t : Nat) (q : Int), t ≤ ts → ts - t < j2 → q = pl + o_W l t → am_Sem G d 146 V T Q 19 [some (vR 16), some (vR a), some (vI q), some (vI o), some (vI k), some (vI t)] [] W (am_RF sh) T 0 0 := by
        intro j2
        induction j2 with
        | zero => intro t q q1 q2; omega
        | succ j2 ih2 =>
          intro t q q1 q2 q3
          have wt := o_W_nn l t
          have wm := wmx t q1
          by_cases z : t = ts
          · subst z
            rw [← q3] at nx0
            rw [← ek] at nx0
            by_cases z2 : t = S.length
            · subst ho
              have z2' : (t : Int) = S.length := by omega
              clear w2 w3 w4 w5 ih ih2 hR gR s1 s2 hbr hjt hj' wmx e17 hw hQ
              refine am_run 400 mt_O_placeOf ok_O_placeOf (fun K S hK hS => ?_)
              iterate 30 (all_goals (first
                | (refine And.intro (by omega) ?_)
                | (refine And.intro (by decide) ?_)
                | (refine And.intro (fun hb => absurd hb (by omega)) (fun hb => ?_))
                | (refine And.intro (fun hb => ?_) (fun hb => absurd hb (by omega)))
                | (refine And.intro (fun hb => ?_) (fun hb => ?_))
                | (intro hb)
                | (refine am_if_mk (a_i _) ?_)
                | (simp only [a_l, a_b, a_q, a_m, a_c, a_r, a_R, a_z, a_3, ea])
                | (conv => whnf)))
              exact hS nx0
            · have et := w2 t (by omega)
              rw [o_ex_lt (by omega)] at s1
              have ee : W 29 t = W (a + 1) k := by rw [et, ek, s1]
              subst ho
              clear w2 w3 w4 w5 ih ih2 hR gR s2 hbr hjt hj' wmx e17 hw hQ
              refine am_run 400 mt_O_placeOf ok_O_placeOf (fun K S hK hS => ?_)
              iterate 30 (all_goals (first
                | (refine And.intro (by omega) ?_)
                | (refine And.intro (by decide) ?_)
                | (refine And.intro (fun hb => absurd hb (by omega)) (fun hb => ?_))
                | (refine And.intro (fun hb => ?_) (fun hb => absurd hb (by omega)))
                | (refine And.intro (fun hb => ?_) (fun hb => ?_))
                | (intro hb)
                | (refine am_if_mk (a_i _) ?_)
                | (simp only [a_l, a_b, a_q, a_m, a_c, a_r, a_R, a_z, a_3, ea, ee])
                | (conv => whnf)))
              exact hS nx0
          · have lt := o_inc_lt w3 (show t < ts by omega) ht
            rw [← s1, o_ex_lt (by omega)] at lt
            have et := w2 t (by omega)
            have rt := w5 _ (o_getD_mem (S := S) (t := t) (by omega))
            rw [← et] at lt rt
            rw [← ek] at lt rk
            have ew := e17 (t + 1) (by omega)
            have wm2 := wmx (t + 1) (by omega)
            have nx := ih2 (t + 1) (q + k_ways l (t + 1)) (by omega) (by omega) (by rw [o_W_S]; omega)
            have kb := k_ways_b (l := l) (o := t + 1) (by omega)
            rw [show (((t + 1 : Nat)) : Int) = (t : Int) + 1 by omega] at ew nx
            obtain ⟨kw, hkw⟩ : ∃ kw, kw = k_ways l (t + 1) := ⟨_, rfl⟩
            rw [← hkw] at ew kb nx
            subst ho
            clear w2 w3 w4 w5 ih ih2 hR gR s1 s2 hbr hjt hj' wmx e17 hw hkw nx0 hQ
            refine am_run 400 mt_O_placeOf ok_O_placeOf (fun K S hK hS => ?_)
            iterate 30 (all_goals (first
              | (refine And.intro (by omega) ?_)
              | (refine And.intro (by decide) ?_)
              | (refine And.intro (fun hb => absurd hb (by omega)) (fun hb => ?_))
              | (refine And.intro (fun hb => ?_) (fun hb => absurd hb (by omega)))
              | (refine And.intro (fun hb => ?_) (fun hb => ?_))
              | (intro hb)
              | (refine am_if_mk (a_i _) ?_)
              | (simp only [a_l, a_b, a_q, a_m, a_c, a_r, a_R, a_z, a_3, ea, ew])
              | (conv => whnf)))
            exact hS nx
      have nx := inner (ts + 1) 0 pl (by omega) (by omega) (by show pl = pl + 0; omega)
      clear inner nx0 w2 w3 w4 w5 ih hR gR s1 s2 hbr hjt hj' wmx e17 hw hQ
      refine am_run 400 mt_O_placeOf ok_O_placeOf (fun K S hK hS => ?_)
      iterate 30 (all_goals (first
        | (refine And.intro (by omega) ?_)
        | (refine And.intro (by decide) ?_)
        | (refine And.intro (fun hb => absurd hb (by omega)) (fun hb => ?_))
        | (refine And.intro (fun hb => ?_) (fun hb => absurd hb (by omega)))
        | (refine And.intro (fun hb => ?_) (fun hb => ?_))
        | (intro hb)
        | (refine am_if_mk (a_i _) ?_)
        | (simp only [a_l, a_b, a_q, a_m, a_c, a_r, a_R, a_z, a_3, ea])
        | (conv => whnf)))
      exact hS nx
  have nx := loop (n + 1).toNat 0 0 0 0 i.toNat [] none V (by omega) (by omega) (by omega) (by omega) (by omega) rfl (by omega) (fun _ _ => rfl) (fun t ht => absurd ht (Nat.not_lt_zero _)) (List.pairwise_singleton _ _) (fun x hx => (List.not_mem_nil hx).elim) (by rw [show n - 0 = n by omega]; exact hR)
  refine am_run 400 mt_O_placeOf ok_O_placeOf (fun K S hK hS => ?_)
  iterate 30 (all_goals (first
    | (refine And.intro (by omega) ?_)
    | (refine And.intro (fun hb => absurd hb (by omega)) (fun hb => ?_))
    | (refine And.intro (fun hb => ?_) (fun hb => absurd hb (by omega)))
    | (refine And.intro (fun hb => ?_) (fun hb => ?_))
    | (intro hb)
    | (conv => whnf)))
  exact hS nx
