/-! how many free ones lie over a free one -/
noncomputable def o_ind (P : Prop) : Int := @ite Int P (Classical.propDecidable P) 1 0
theorem o_ind_t {P : Prop} (h : P) : o_ind P = 1 := by unfold o_ind; rw [if_pos h]
theorem o_ind_f {P : Prop} (h : ¬ P) : o_ind P = 0 := by unfold o_ind; rw [if_neg h]
theorem o_ind_iff {P P' : Prop} (h : P ↔ P') : o_ind P = o_ind P' := by rw [show P = P' from propext h]
def o_sum (φ : List Int → Int) : List (List Int) → Int
  | [] => 0
  | r :: L => φ r + o_sum φ L
theorem o_sum_app (φ : List Int → Int) : ∀ A B, o_sum φ (A ++ B) = o_sum φ A + o_sum φ B
  | [], B => by rw [List.nil_append, o_sum]; omega
  | r :: A, B => by rw [List.cons_append, o_sum, o_sum, o_sum_app φ A B]; omega
theorem o_sum_map (φ : List Int → Int) (f : List Int → List Int) : ∀ A, o_sum φ (A.map f) = o_sum (fun r => φ (f r)) A
  | [] => rfl
  | r :: A => by rw [List.map_cons, o_sum, o_sum, o_sum_map φ f A]
theorem o_sum_eq {φ ψ : List Int → Int} : ∀ A, (∀ r, r ∈ A → φ r = ψ r) → o_sum φ A = o_sum ψ A
  | [], _ => rfl
  | r :: A, h => by rw [o_sum, o_sum, h r List.mem_cons_self, o_sum_eq A (fun x hx => h x (List.mem_cons_of_mem _ hx))]
theorem o_sum_zero {φ : List Int → Int} : ∀ A, (∀ r, r ∈ A → φ r = 0) → o_sum φ A = 0
  | [], _ => rfl
  | r :: A, h => by rw [o_sum, h r List.mem_cons_self, o_sum_zero A (fun x hx => h x (List.mem_cons_of_mem _ hx))]; rfl
theorem o_sum_perm {φ : List Int → Int} {A B : List (List Int)} (h : A.Perm B) : o_sum φ A = o_sum φ B := by
  induction h with
  | nil => rfl
  | cons x _ ih => rw [o_sum, o_sum, ih]
  | swap x y l => rw [o_sum, o_sum, o_sum, o_sum]; omega
  | trans _ _ ih1 ih2 => rw [ih1, ih2]
theorem o_perm : ∀ (A B : List (List Int)), A.Nodup → (∀ x, x ∈ A → x ∈ B) → B.length ≤ A.length → A.Perm B
  | [], B, _, _, h => by
    have : B = [] := List.eq_nil_of_length_eq_zero (by rw [List.length_nil] at h; omega)
    rw [this]
  | a :: A, B, hn, hs, hl => by
    have hn := List.nodup_cons.mp hn
    have ha : a ∈ B := hs a List.mem_cons_self
    have hl2 := List.length_erase_of_mem ha
    rw [List.length_cons] at hl
    have ih := o_perm A (B.erase a) hn.2 (fun x hx => by
      have ne : x ≠ a := fun e => hn.1 (by rw [← e]; exact hx)
      exact (List.mem_erase_of_ne ne).mpr (hs x (List.mem_cons_of_mem _ hx))) (by omega)
    exact (ih.cons a).trans (List.perm_cons_erase ha).symm
/-! products -/
def o_pr (F : Int → Int) : Nat → Int
  | 0 => 1
  | b + 1 => o_pr F b * F b
theorem o_pr_eq {F F' : Int → Int} : ∀ b : Nat, (∀ B : Int, 0 ≤ B → B < b → F B = F' B) → o_pr F b = o_pr F' b
  | 0, _ => rfl
  | b + 1, h => by rw [o_pr, o_pr, o_pr_eq b (fun B x y => h B x (by omega)), h b (by omega) (by omega)]
theorem o_pr_one {F : Int → Int} : ∀ b : Nat, (∀ B : Int, 0 ≤ B → B < b → F B = 1) → o_pr F b = 1
  | 0, _ => rfl
  | b + 1, h => by rw [o_pr, o_pr_one b (fun B x y => h B x (by omega)), h b (by omega) (by omega)]; rfl
theorem o_pr_out {F : Int → Int} {B0 : Int} : ∀ b : Nat, 0 ≤ B0 → B0 < b → o_pr F b = F B0 * o_pr (fun B => if B = B0 then 1 else F B) b
  | 0, h, h' => by omega
  | b + 1, h, h' => by
    rw [o_pr, o_pr]
    by_cases q : (b : Int) = B0
    · rw [if_pos q, q, Int.mul_one, Int.mul_comm]
      congr 1
      exact o_pr_eq b (fun B x y => by rw [if_neg (by omega)])
    · rw [if_neg q, o_pr_out b h (by omega), Int.mul_assoc]
/-! points of a block to come; entries of a stack of points in a block -/
def o_lf (τ : Int → Int) (n B k : Int) : Nat := (m_cg τ B n.toNat - m_cg τ B k.toNat).toNat
def o_ct (τ : Int → Int) (pf : Nat → Int) (B : Int) : Nat → Nat
  | 0 => 0
  | t + 1 => o_ct τ pf B t + (if τ (pf t) = B then 1 else 0)
theorem o_ct_eq {τ : Int → Int} {pf pf' : Nat → Int} {B : Int} : ∀ t, (∀ u, u < t → pf u = pf' u) → o_ct τ pf B t = o_ct τ pf' B t
  | 0, _ => rfl
  | t + 1, h => by rw [o_ct, o_ct, o_ct_eq t (fun u hu => h u (by omega)), h t (by omega)]
theorem o_lf_S {τ : Int → Int} {n B k : Int} (k0 : 0 ≤ k) (k1 : k < n) : o_lf τ n B k = o_lf τ n B (k + 1) + (if τ k = B then 1 else 0) := by
  have h1 := m_cg_mono τ B (k + 1).toNat n.toNat (by omega)
  have h2 := m_cg_S τ B k k0
  unfold o_lf
  by_cases q : τ k = B
  · rw [if_pos q] at h2 ⊢; omega
  · rw [if_neg q] at h2 ⊢; omega
theorem o_lf_0 {τ : Int → Int} {B : Int} : ∀ (n k : Nat), k ≤ n → (∀ j : Int, k ≤ j → j < n → τ j ≠ B) → m_cg τ B n = m_cg τ B k
  | 0, k, h, _ => by rw [show k = 0 by omega]
  | n + 1, k, h, e => by
    by_cases q : k = n + 1
    · rw [q]
    · rw [m_cg, if_neg (e n (by omega) (by omega)), o_lf_0 n k (by omega) (fun j a b => e j a (by omega))]; omega
/-- the sum over the entries of one block -/
def o_bs (τ : Int → Int) (pf : Nat → Int) (B : Int) (m : Nat) : Nat → Int
  | 0 => 0
  | t + 1 => o_bs τ pf B m t + (if τ (pf t) = B then k_ways m (o_ct τ pf B (t + 1)) else 0)
theorem o_bs_W (τ : Int → Int) (pf : Nat → Int) (B : Int) (m : Nat) : ∀ t, o_bs τ pf B m t = o_W m (o_ct τ pf B t)
  | 0 => rfl
  | t + 1 => by
    rw [o_bs, o_bs_W τ pf B m t, o_ct]
    by_cases q : τ (pf t) = B
    · rw [if_pos q, if_pos q, o_W_S]
    · rw [if_neg q, if_neg q]; show _ = o_W m (o_ct τ pf B t + 0); rw [Nat.add_zero]; omega
def o_ext (g : Int → Int) (k : Int) (r : List Int) (i : Int) : Int := if i < k then g i else r.getD (i - k).toNat 0
def o_upd (g : Int → Int) (k x : Int) (i : Int) : Int := if i = k then x else g i
theorem o_ext_S (g : Int → Int) (k x : Int) (r : List Int) (i : Int) : o_ext g k (x :: r) i = o_ext (o_upd g k x) (k + 1) r i := by
  unfold o_ext o_upd
  by_cases q : i < k
  · rw [if_pos q, if_pos (by omega), if_neg (by omega)]
  · by_cases q2 : i = k
    · subst q2
      rw [if_neg q, if_pos (by omega), if_pos rfl, show (i - i).toNat = 0 by omega]
      rfl
    · rw [if_neg q, if_neg (by omega), show (i - k).toNat = (i - (k + 1)).toNat + 1 by omega]
      rfl
theorem o_fin_eq {g g' τ τ' : Int → Int} {n : Int} (e : ∀ i, 0 ≤ i → i < n → g i = g' i) (e' : ∀ i, 0 ≤ i → i < n → τ i = τ' i) (h : m_fin g τ n) : m_fin g' τ' n := fun x y a b c q => by
  rw [← e' x a (by omega), ← e' y (by omega) c]
  exact h x y a b c (by rw [e x a (by omega), e y (by omega) c]; exact q)
theorem m_fin_sym {g τ : Int → Int} {n x y : Int} (h : m_fin g τ n) (hx : 0 ≤ x ∧ x < n) (hy : 0 ≤ y ∧ y < n) (e : g x = g y) : τ x = τ y := by
  rcases Int.lt_trichotomy x y with q | q | q
  · exact h x y hx.1 q hy.2 e
  · rw [q]
  · exact (h y x hy.1 q hx.2 e.symm).symm
theorem o_sum_range {φ : List Int → Int} {F : Nat → List (List Int)} (m : Nat) : o_sum φ ((List.range (m + 1)).flatMap F) = o_sum φ ((List.range m).flatMap F) + o_sum φ (F m) := by
  rw [List.range_succ, List.flatMap_append, o_sum_app]
  congr 1
  simp
theorem o_low {τ : Int → Int} {n : Int} {nb : Nat} (hτ : ¬ m_Cr τ n) (hnb : ∀ j, 0 ≤ j → j < n → 0 ≤ τ j ∧ τ j < nb) : ∀ (l : Nat) (g : Int → Int) (k : Int) (S : List Int) (f : Int) (pf : Nat → Int), 0 ≤ k → k + l = n → (∀ j, 0 ≤ j → j < k → g j < f) → (∀ t : Nat, t < S.length → (0 ≤ pf t ∧ pf t < k) ∧ g (pf t) = S.getD t 0) → (∀ t t' : Nat, t < t' → t' < S.length → pf t < pf t') → m_fin g τ k → o_sum (fun r => o_ind (m_fin (o_ext g k r) τ n)) (o_cp l S f) = o_pr (fun B => k_ways (o_lf τ n B k) (o_ct τ pf B S.length)) nb
  | 0, g, k, S, f, pf, k0, hk, h1, h2, h3, h4 => by
    have hk : k = n := by omega
    subst hk
    rw [o_pr_one nb (fun B _ _ => by
      show k_ways (o_lf τ k B k) _ = 1
      rw [show o_lf τ k B k = 0 by unfold o_lf; omega]; rfl)]
    show o_ind _ + 0 = 1
    rw [o_ind_t (o_fin_eq (g := g) (τ := τ) (fun i a b => by unfold o_ext; rw [if_pos b]) (fun _ _ _ => rfl) h4)]
    rfl
  | l + 1, g, k, S, f, pf, k0, hk, h1, h2, h3, h4 => by
    have hB := hnb k k0 (by omega)
    obtain ⟨B0, eB⟩ : ∃ B0, B0 = τ k := ⟨_, rfl⟩
    rw [← eB] at hB
    obtain ⟨X, eX⟩ : ∃ X, X = o_pr (fun B => if B = B0 then 1 else k_ways (o_lf τ n B (k + 1)) (o_ct τ pf B S.length)) nb := ⟨_, rfl⟩
    obtain ⟨m, em⟩ : ∃ m, m = o_lf τ n B0 (k + 1) := ⟨_, rfl⟩
    have hR : o_pr (fun B => k_ways (o_lf τ n B k) (o_ct τ pf B S.length)) nb = k_ways (m + 1) (o_ct τ pf B0 S.length) * X := by
      rw [o_pr_out (B0 := B0) nb hB.1 hB.2, eX, o_lf_S k0 (by omega), if_pos eB.symm, ← em]
      congr 1
      refine o_pr_eq nb (fun B _ _ => ?_)
      by_cases q : B = B0
      · rw [if_pos q, if_pos q]
      · rw [if_neg q, if_neg q, o_lf_S k0 (by omega), if_neg (fun e => q (by rw [eB]; exact e.symm))]
        rfl
    have exk : ∀ x r i, o_ext g k (x :: r) i = o_ext (o_upd g k x) (k + 1) r i := o_ext_S g k
    have upl : ∀ x i, i < k → o_upd g k x i = g i := fun x i q => by unfold o_upd; rw [if_neg (by omega)]
    have upk : ∀ x, o_upd g k x k = x := fun x => by unfold o_upd; rw [if_pos rfl]
    have br : ∀ t, t < S.length → o_sum (fun r => o_ind (m_fin (o_ext g k r) τ n)) (o_br l S f t) = (if τ (pf t) = B0 then k_ways m (o_ct τ pf B0 (t + 1)) else 0) * X := by
      intro t ht
      obtain ⟨p1, p2⟩ := h2 t ht
      have ex : (S ++ [f]).getD t 0 = S.getD t 0 := o_ex_lt ht
      unfold o_br
      rw [if_pos ht, o_sum_map, ex]
      by_cases q : τ (pf t) = B0
      · rw [if_pos q]
        have ih := o_low hτ hnb l (o_upd g k (S.getD t 0)) (k + 1) ((S ++ [f]).take (t + 1)) f pf (by omega) (by omega) (fun j a b => by
          by_cases z : j = k
          · rw [z, upk, ← p2]; exact h1 _ p1.1 p1.2
          · rw [upl _ j (by omega)]; exact h1 j a (by omega)) (fun u hu => by
          rw [o_tk (by omega)] at hu
          obtain ⟨a, b⟩ := h2 u (by omega)
          refine ⟨by omega, ?_⟩
          rw [upl _ _ a.2, b, List.getD_eq_getElem?_getD, List.getD_eq_getElem?_getD, List.getElem?_take, if_pos hu, List.getElem?_append_left (by omega)]) (fun u u' a b => by
          rw [o_tk (by omega)] at b
          exact h3 u u' a (by omega)) (fun x y a b c e => by
          by_cases z : y = k
          · subst z
            rw [upk, upl _ x b, ← p2] at e
            rw [← eB, ← q]
            exact m_fin_sym h4 ⟨a, b⟩ p1 e
          · rw [upl _ x (by omega), upl _ y (by omega)] at e
            exact h4 x y a b (by omega) e)
        rw [o_sum_eq (ψ := fun r => o_ind (m_fin (o_ext (o_upd g k (S.getD t 0)) (k + 1) r) τ n)) _ (fun r _ => by
          show o_ind (m_fin (o_ext g k (S.getD t 0 :: r)) τ n) = _
          rw [show o_ext g k (S.getD t 0 :: r) = o_ext (o_upd g k (S.getD t 0)) (k + 1) r from funext (exk _ r)]), ih, o_tk (by omega), o_pr_out (B0 := B0) nb hB.1 hB.2, ← em, eX]
        congr 1
        refine o_pr_eq nb (fun B _ _ => ?_)
        by_cases z : B = B0
        · rw [if_pos z, if_pos z]
        · rw [if_neg z, if_neg z]
          by_cases w : ∃ j, k + 1 ≤ j ∧ j < n ∧ τ j = B
          · obtain ⟨j, j0, j1, j2⟩ := w
            have key : ∀ v, v ≤ S.length → t + 1 ≤ v → o_ct τ pf B v = o_ct τ pf B (t + 1) := by
              intro v
              induction v with
              | zero => intro a b; omega
              | succ v ihv =>
                intro a b
                by_cases y : v = t
                · rw [y]
                · obtain ⟨c1, -⟩ := h2 v (by omega)
                  have c2 := h3 t v (by omega) (by omega)
                  have ne : τ (pf v) ≠ B := fun e => hτ ⟨pf t, pf v, k, j, p1.1, c2, c1.2, by omega, j1, e.trans j2.symm, by rw [← eB, j2]; exact fun e => z e.symm, q.trans eB⟩
                  rw [o_ct, ihv (by omega) (by omega), if_neg ne, Nat.add_zero]
            rw [key S.length (Nat.le_refl _) (by omega)]
          · have e0 : o_lf τ n B (k + 1) = 0 := by
              have := o_lf_0 (τ := τ) (B := B) n.toNat (k + 1).toNat (by omega) (fun j a b e => w ⟨j, by omega, by omega, e⟩)
              unfold o_lf
              omega
            rw [e0]
            rfl
      · rw [if_neg q, Int.zero_mul]
        refine o_sum_zero _ (fun r _ => o_ind_f (fun e => q ?_))
        have := e (pf t) k p1.1 p1.2 (by omega) (by
          rw [exk, exk]
          unfold o_ext
          rw [if_pos (by omega), if_pos (by omega), upk, upl _ _ p1.2, p2])
        rw [this, eB]
    have brn : o_sum (fun r => o_ind (m_fin (o_ext g k r) τ n)) (o_br l S f S.length) = k_ways m (o_ct τ pf B0 S.length + 1) * X := by
      have ex : (S ++ [f]).getD S.length 0 = f := o_ex_eq
      obtain ⟨pf', epf⟩ : ∃ pf' : Nat → Int, pf' = fun u => if u = S.length then k else pf u := ⟨_, rfl⟩
      have pl : ∀ u, u < S.length → pf' u = pf u := fun u hu => by rw [epf]; show (if u = S.length then k else pf u) = pf u; rw [if_neg (by omega)]
      have pk : pf' S.length = k := by rw [epf]; show (if S.length = S.length then k else pf S.length) = k; rw [if_pos rfl]
      unfold o_br
      rw [if_neg (Nat.lt_irrefl _), o_sum_map, ex]
      have ih := o_low hτ hnb l (o_upd g k f) (k + 1) ((S ++ [f]).take (S.length + 1)) (f + 1) pf' (by omega) (by omega) (fun j a b => by
        by_cases z : j = k
        · rw [z, upk]; omega
        · rw [upl _ j (by omega)]; have := h1 j a (by omega); omega) (fun u hu => by
        rw [o_tk (Nat.le_refl _)] at hu
        have eg : ((S ++ [f]).take (S.length + 1)).getD u 0 = (S ++ [f]).getD u 0 := by
          rw [List.getD_eq_getElem?_getD, List.getD_eq_getElem?_getD, List.getElem?_take, if_pos hu]
        rw [eg]
        by_cases z : u = S.length
        · rw [z, pk, upk, ex]; exact ⟨by omega, rfl⟩
        · obtain ⟨a, b⟩ := h2 u (by omega)
          rw [pl u (by omega), upl _ _ a.2, o_ex_lt (by omega)]
          exact ⟨by omega, b⟩) (fun u u' a b => by
        rw [o_tk (Nat.le_refl _)] at b
        by_cases z : u' = S.length
        · rw [z, pk, pl u (by omega)]; exact (h2 u (by omega)).1.2
        · rw [pl u (by omega), pl u' (by omega)]; exact h3 u u' a (by omega)) (fun x y a b c e => by
        by_cases z : y = k
        · subst z
          rw [upk, upl _ x b] at e
          have := h1 x a b
          omega
        · rw [upl _ x (by omega), upl _ y (by omega)] at e
          exact h4 x y a b (by omega) e)
      rw [o_sum_eq (ψ := fun r => o_ind (m_fin (o_ext (o_upd g k f) (k + 1) r) τ n)) _ (fun r _ => by
        show o_ind (m_fin (o_ext g k (f :: r)) τ n) = _
        rw [show o_ext g k (f :: r) = o_ext (o_upd g k f) (k + 1) r from funext (exk _ r)]), ih, o_tk (Nat.le_refl _), o_pr_out (B0 := B0) nb hB.1 hB.2, ← em, eX]
      have c0 : ∀ B, o_ct τ pf' B S.length = o_ct τ pf B S.length := fun B => o_ct_eq _ (fun u hu => pl u hu)
      congr 1
      · rw [o_ct, c0, pk, if_pos eB.symm]
      · refine o_pr_eq nb (fun B _ _ => ?_)
        by_cases z : B = B0
        · rw [if_pos z, if_pos z]
        · rw [if_neg z, if_neg z, o_ct, c0, pk, if_neg (fun e => z (by rw [eB]; exact e.symm))]
          rfl
    have part : ∀ t, t ≤ S.length → o_sum (fun r => o_ind (m_fin (o_ext g k r) τ n)) ((List.range t).flatMap (o_br l S f)) = o_bs τ pf B0 m t * X := by
      intro t
      induction t with
      | zero => intro _; rw [o_bs, Int.zero_mul]; rfl
      | succ t iht =>
        intro ht
        rw [o_sum_range, iht (by omega), br t (by omega), o_bs, Int.add_mul]
    rw [o_cp_S, o_sum_range, part _ (Nat.le_refl _), brn, hR, o_bs_W, k_ways_S, o_W_S, Int.add_mul]
