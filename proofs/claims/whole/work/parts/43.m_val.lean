-- values of versions
def clb (b x : Int) : Int := max (-b) (min b x)
theorem clb_rng {b x : Int} (h : 0 ≤ b) : -b ≤ clb b x ∧ clb b x ≤ b := by unfold clb; omega
def con1 (kd tg so nu : Int) (r : Int → Int) : Int → Int := fun c => if c = tg then (if kd = 0 then clb 9999 (r so) else if kd = 1 then clb 9999 (r tg + r so) else if kd = 2 then clb 9999 ((r so * nu).tdiv 4) else clb nu (r tg)) else r c
def cns (A : AS) (v : Int) : Nat → (Int → Int) → Int → Int
  | 0, r => r
  | n + 1, r => con1 (A 5 v (4 * n)) (A 5 v (4 * n + 1)) (A 5 v (4 * n + 2)) (A 5 v (4 * n + 3)) (cns A v n r)
def rowOk (r : Int → Int) : Prop := ∀ c, 0 ≤ c → c < 4 → -9999 ≤ r c ∧ r c ≤ 9999
theorem con1_ok {kd tg so nu : Int} {r : Int → Int} (o : conOk kd tg so nu) (h : rowOk r) : rowOk (con1 kd tg so nu r) := by
  intro c c0 c1
  obtain ⟨o1, o2, o3, o4, o5, o6, o7, o8, o9⟩ := o
  unfold con1
  split
  · split
    · exact clb_rng (by decide)
    · split
      · exact clb_rng (by decide)
      · split
        · exact clb_rng (by decide)
        · have := o9 (by omega)
          have := clb_rng (b := nu) (x := r tg) (by omega)
          omega
  · exact h c c0 c1
theorem cns_ok {A : AS} (I : IvV A) {v : Int} (hv : exv A v) {r : Int → Int} (h : rowOk r) : ∀ n : Nat, (n : Int) ≤ A 4 v 0 → rowOk (cns A v n r)
  | 0, _ => h
  | n + 1, hn => con1_ok (I.2.2.2.2.2.1 v n hv (by omega) (by omega)) (cns_ok I hv h n (by omega))
theorem con1_ext {kd tg so nu : Int} {r r' : Int → Int} (o : conOk kd tg so nu) (h : ∀ c, 0 ≤ c → c < 4 → r c = r' c) : ∀ c, 0 ≤ c → c < 4 → con1 kd tg so nu r c = con1 kd tg so nu r' c := by
  intro c c0 c1
  obtain ⟨o1, o2, o3, o4, o5, o6, o7, o8, o9⟩ := o
  unfold con1
  rw [h c c0 c1, h tg o3 (by omega), h so o5 (by omega)]
theorem cns_ext {A : AS} (I : IvV A) {v : Int} (hv : exv A v) {r r' : Int → Int} (h : ∀ c, 0 ≤ c → c < 4 → r c = r' c) : ∀ n : Nat, (n : Int) ≤ A 4 v 0 → ∀ c, 0 ≤ c → c < 4 → cns A v n r c = cns A v n r' c
  | 0, _ => h
  | n + 1, hn => con1_ext (I.2.2.2.2.2.1 v n hv (by omega) (by omega)) (cns_ext I hv h n (by omega))
def vsm (A : AS) (v : Int) (r : Int → Int) : Int := 31 * A 3 v 0 + sm (fun c => (c + 1) * (r c + 10000)) 4
noncomputable def vlf (A : AS) : Nat → Int → (Int → Int) → Int
  | 0, _, _ => 0
  | n + 1, v, r => (vsm A v (cns A v (A 4 v 0).toNat r) + sm (fun i => 7 * (i + 1) * vlf A n (A 7 v i) (cns A v (A 4 v 0).toNat r)) (A 6 v 0).toNat).tmod 99991
noncomputable def vl (A : AS) (v : Int) (r : Int → Int) : Int := vlf A 4 v r
theorem vlf_fuel {A : AS} (I : IvV A) : ∀ (n : Nat) (v : Int) (r : Int → Int), exv A v → A 8 v 0 ≤ n → vlf A n v r = vlf A (n + 1) v r
  | 0, v, r, hv, hn => by have := I.2.2.2.2.1 v hv; omega
  | n + 1, v, r, hv, hn => by
    rw [vlf, vlf]
    congr 2
    refine sm_congr _ (fun i i0 i1 => ?_)
    have := I.2.2.2.2.2.2.1 v i hv i0 (by omega)
    rw [vlf_fuel I n (A 7 v i) _ this.1 (by omega)]
theorem vlf_vl {A : AS} (I : IvV A) {n : Nat} {v : Int} {r : Int → Int} (hv : exv A v) (hn : A 8 v 0 ≤ n) (h4 : n ≤ 4) : vlf A n v r = vl A v r := by
  unfold vl
  rcases (by omega : n = 0 ∨ n = 1 ∨ n = 2 ∨ n = 3 ∨ n = 4) with q | q | q | q | q <;> subst q
  · have := I.2.2.2.2.1 v hv; omega
  · rw [vlf_fuel I 1 v r hv (by omega), vlf_fuel I 2 v r hv (by omega), vlf_fuel I 3 v r hv (by omega)]
  · rw [vlf_fuel I 2 v r hv (by omega), vlf_fuel I 3 v r hv (by omega)]
  · rw [vlf_fuel I 3 v r hv (by omega)]
  · rfl
theorem vl_eq {A : AS} (I : IvV A) {v : Int} {r : Int → Int} (hv : exv A v) : vl A v r = (vsm A v (cns A v (A 4 v 0).toNat r) + sm (fun i => 7 * (i + 1) * vl A (A 7 v i) (cns A v (A 4 v 0).toNat r)) (A 6 v 0).toNat).tmod 99991 := by
  have e : vl A v r = vlf A (3 + 1) v r := rfl
  rw [e, vlf]
  congr 2
  refine sm_congr _ (fun i i0 i1 => ?_)
  have h1 := I.2.2.2.2.2.2.1 v i hv i0 (by omega)
  have h2 := I.2.2.2.2.1 v hv
  rw [vlf_vl I h1.1 (by omega) (by omega)]
theorem sm_bnd {g : Int → Int} {M : Int} : ∀ n : Nat, (∀ i : Int, 0 ≤ i → i < n → 0 ≤ g i ∧ g i ≤ M) → 0 ≤ sm g n ∧ sm g n ≤ n * M
  | 0, _ => by simp [sm]
  | n + 1, h => by
    have h1 := sm_bnd n (fun i i0 i1 => h i i0 (by omega))
    have h2 := h n (by omega) (by omega)
    have e : ((n + 1 : Nat) : Int) * M = n * M + M := by rw [show ((n + 1 : Nat) : Int) = (n : Int) + 1 by omega, Int.add_mul]; omega
    rw [e]
    simp only [sm]
    omega
theorem vsm_bnd {A : AS} (I : IvV A) {v : Int} (hv : exv A v) {r : Int → Int} (h : rowOk r) : ∀ n : Nat, n ≤ 4 → 0 ≤ 31 * A 3 v 0 + sm (fun c => (c + 1) * (r c + 10000)) n ∧ 31 * A 3 v 0 + sm (fun c => (c + 1) * (r c + 10000)) n ≤ 400000 := by
  intro n hn
  have i5 := I.2.2.2.2.1 v hv
  have := sm_bnd (g := fun c => (c + 1) * (r c + 10000)) (M := 80000) n (fun i i0 i1 => by
    have := h i i0 (by omega)
    rcases (by omega : i = 0 ∨ i = 1 ∨ i = 2 ∨ i = 3) with q | q | q | q <;> subst q <;> show 0 ≤ _ * (_ + 10000) ∧ _ * (_ + 10000) ≤ 80000 <;> omega)
  rcases (by omega : n = 0 ∨ n = 1 ∨ n = 2 ∨ n = 3 ∨ n = 4) with q | q | q | q | q <;> subst q <;> omega
theorem psm_bnd {f : Int → Int} (h : ∀ i, 0 ≤ i → i < 3 → 0 ≤ f i ∧ f i ≤ 99990) : ∀ n : Nat, n ≤ 3 → 0 ≤ sm (fun i => 7 * (i + 1) * f i) n ∧ sm (fun i => 7 * (i + 1) * f i) n ≤ 7000000 := by
  intro n hn
  have := sm_bnd (g := fun i => 7 * (i + 1) * f i) (M := 2100000) n (fun i i0 i1 => by
    have := h i i0 (by omega)
    rcases (by omega : i = 0 ∨ i = 1 ∨ i = 2) with q | q | q <;> subst q <;> show 0 ≤ 7 * (_ + 1) * _ ∧ 7 * (_ + 1) * _ ≤ 2100000 <;> omega)
  rcases (by omega : n = 0 ∨ n = 1 ∨ n = 2 ∨ n = 3) with q | q | q | q <;> subst q <;> omega
theorem tmod_rng {x m : Int} (hx : 0 ≤ x) (hm : 0 < m) : 0 ≤ x.tmod m ∧ x.tmod m < m := ⟨Int.tmod_nonneg _ hx, Int.tmod_lt_of_pos _ hm⟩
theorem vlf_rng {A : AS} (I : IvV A) : ∀ (n : Nat) (v : Int) (r : Int → Int), exv A v → rowOk r → 0 ≤ vlf A n v r ∧ vlf A n v r ≤ 99990
  | 0, v, r, hv, hr => by simp [vlf]
  | n + 1, v, r, hv, hr => by
    have i5 := I.2.2.2.2.1 v hv
    have i6 := I.2.2.2.2.2.2.2.1 v hv.1 (exv_rng I hv).2
    have hc := cns_ok I hv hr (A 4 v 0).toNat (by omega)
    have h1 := vsm_bnd I hv hc 4 (by omega)
    have h2 := sm_bnd (g := fun i => 7 * (i + 1) * vlf A n (A 7 v i) (cns A v (A 4 v 0).toNat r)) (M := 2100000) (A 6 v 0).toNat (fun i i0 i1 => by
      have h3 := I.2.2.2.2.2.2.1 v i hv i0 (by omega)
      have := vlf_rng I n (A 7 v i) _ h3.1 hc
      rcases (by omega : i = 0 ∨ i = 1 ∨ i = 2) with q | q | q <;> subst q <;> show 0 ≤ 7 * (_ + 1) * _ ∧ 7 * (_ + 1) * _ ≤ 2100000 <;> omega)
    rw [vlf]
    have := tmod_rng (x := vsm A v (cns A v (A 4 v 0).toNat r) + sm (fun i => 7 * (i + 1) * vlf A n (A 7 v i) (cns A v (A 4 v 0).toNat r)) (A 6 v 0).toNat) (m := 99991) (by unfold vsm; omega) (by decide)
    omega
theorem vl_rng {A : AS} (I : IvV A) {v : Int} {r : Int → Int} (hv : exv A v) (hr : rowOk r) : 0 ≤ vl A v r ∧ vl A v r ≤ 99990 := vlf_rng I 4 v r hv hr
theorem vlf_ext {A : AS} (I : IvV A) : ∀ (n : Nat) (v : Int) (r r' : Int → Int), exv A v → (∀ c, 0 ≤ c → c < 4 → r c = r' c) → vlf A n v r = vlf A n v r'
  | 0, v, r, r', hv, h => rfl
  | n + 1, v, r, r', hv, h => by
    have i5 := I.2.2.2.2.1 v hv
    have hc := cns_ext I hv h (A 4 v 0).toNat (by omega)
    rw [vlf, vlf]
    unfold vsm
    rw [sm_congr (g := fun c => (c + 1) * (cns A v (A 4 v 0).toNat r c + 10000)) (g' := fun c => (c + 1) * (cns A v (A 4 v 0).toNat r' c + 10000)) 4 (fun c c0 c1 => by simp only [hc c c0 (by omega)])]
    congr 2
    refine sm_congr _ (fun i i0 i1 => ?_)
    have h3 := I.2.2.2.2.2.2.1 v i hv i0 (by omega)
    simp only [vlf_ext I n (A 7 v i) _ _ h3.1 hc]
theorem vl_ext {A : AS} (I : IvV A) {v : Int} {r r' : Int → Int} (hv : exv A v) (h : ∀ c, 0 ≤ c → c < 4 → r c = r' c) : vl A v r = vl A v r' := vlf_ext I 4 v r r' hv h
-- the cache
def isHit (B : AS) (v : Int) (r : Int → Int) (k : Int) : Prop := 0 ≤ k ∧ k < B 54 0 0 ∧ B 56 k 0 = v ∧ ∀ c, 0 ≤ c → c < 4 → B 56 k (1 + c) = r c
def ent (v x : Int) (r : Int → Int) (j : Int) : Int := if j = 0 then v else if j = 5 then x else r (j - 1)
def pput (B : AS) (v : Int) (r : Int → Int) (x : Int) : AS := fun f i j => match f with
  | 54 => if i = 0 ∧ j = 0 then min 60 (B 54 0 0 + 1) else B 54 i j
  | 56 => if B 54 0 0 = 60 then (if i = 59 then ent v x r j else B 56 (i + 1) j) else if i = B 54 0 0 then ent v x r j else B 56 i j
  | 58 => if i = 0 ∧ j = 0 then B 58 0 0 + 1 else B 58 i j
  | f => B f i j
theorem pput_f {B : AS} {v x : Int} {r : Int → Int} {g : Nat} (h1 : g ≠ 54) (h2 : g ≠ 56) (h3 : g ≠ 58) : pput B v r x g = B g := by
  funext i j
  unfold pput
  split <;> first | (exfalso; omega) | rfl
theorem pput_54 {B : AS} {v x : Int} {r : Int → Int} : pput B v r x 54 0 0 = min 60 (B 54 0 0 + 1) := by
  show (if (0 : Int) = 0 ∧ (0 : Int) = 0 then min 60 (B 54 0 0 + 1) else B 54 0 0) = _
  exact if_pos ⟨rfl, rfl⟩
theorem pput_58 {B : AS} {v x : Int} {r : Int → Int} : pput B v r x 58 0 0 = B 58 0 0 + 1 := by
  show (if (0 : Int) = 0 ∧ (0 : Int) = 0 then B 58 0 0 + 1 else B 58 0 0) = _
  exact if_pos ⟨rfl, rfl⟩
def BEq (A B : AS) : Prop := ∀ g, g ≠ 54 → g ≠ 56 → g ≠ 57 → g ≠ 58 → B g = A g
def CcOk (A B : AS) : Prop := 0 ≤ B 54 0 0 ∧ B 54 0 0 ≤ 60 ∧ ∀ k, 0 ≤ k → k < B 54 0 0 → exv A (B 56 k 0) ∧ rowOk (fun c => B 56 k (1 + c)) ∧ B 56 k 5 = vl A (B 56 k 0) (fun c => B 56 k (1 + c))
def fold (F : Int → AS → AS) : Nat → AS → AS
  | 0, B => B
  | m + 1, B => F m (fold F m B)
noncomputable def fnq (A : AS) (q : Int) : Nat → Int → (Int → Int) → AS → AS
  | 0, _, _, B => B
  | n + 1, v, r, B => cif (q = 1 ∧ ∃ k, isHit B v r k) (up B 57 0 0 (B 57 0 0 + 1)) (if q = 1 then pput (fold (fun i => fnq A q n (A 7 v i) (cns A v (A 4 v 0).toNat r)) (A 6 v 0).toNat B) v r (vl A v r) else fold (fun i => fnq A q n (A 7 v i) (cns A v (A 4 v 0).toNat r)) (A 6 v 0).toNat B)
def NN : Nat → Int
  | 0 => 0
  | n + 1 => 1 + 3 * NN n
theorem NN_nn : ∀ n, 0 ≤ NN n
  | 0 => by simp [NN]
  | n + 1 => by have := NN_nn n; simp only [NN]; omega
theorem pput_ok {A B : AS} {v x : Int} {r : Int → Int} (hv : exv A v) (hr : rowOk r) (hx : x = vl A v r) (C : CcOk A B) (I : IvV A) : CcOk A (pput B v r x) := by
  obtain ⟨c1, c2, c3⟩ := C
  have e54 : pput B v r x 54 0 0 = min 60 (B 54 0 0 + 1) := pput_54
  have e0 : ∀ j, ent v x r j = if j = 0 then v else if j = 5 then x else r (j - 1) := fun _ => rfl
  have E : exv A (ent v x r 0) ∧ rowOk (fun c => ent v x r (1 + c)) ∧ ent v x r 5 = vl A (ent v x r 0) (fun c => ent v x r (1 + c)) := by
    have ec : ∀ c, 0 ≤ c → c < 4 → ent v x r (1 + c) = r c := fun c c0 c1 => by rw [e0, if_neg (by omega), if_neg (by omega), show 1 + c - 1 = c by omega]
    refine ⟨hv, fun c c0 c1 => ?_, ?_⟩
    · show -9999 ≤ ent v x r (1 + c) ∧ ent v x r (1 + c) ≤ 9999
      rw [ec c c0 c1]; exact hr c c0 c1
    · rw [show ent v x r 5 = x from rfl, show ent v x r 0 = v from rfl]
      refine hx.trans ?_
      exact vl_ext I hv (fun c c0 c1 => (ec c c0 c1).symm)
  refine ⟨by omega, by omega, fun k k0 k1 => ?_⟩
  rw [e54] at k1
  have e56 : ∀ j, pput B v r x 56 k j = if B 54 0 0 = 60 then (if k = 59 then ent v x r j else B 56 (k + 1) j) else if k = B 54 0 0 then ent v x r j else B 56 k j := fun _ => rfl
  simp only [e56]
  by_cases z : B 54 0 0 = 60
  · simp only [z, if_true]
    by_cases y : k = 59
    · simp only [y, if_true]; exact E
    · simp only [y, if_false]; exact c3 (k + 1) (by omega) (by omega)
  · simp only [z, if_false]
    by_cases y : k = B 54 0 0
    · simp only [y, if_true]; exact E
    · simp only [y, if_false]; exact c3 k k0 (by omega)
def Cst (A B B' : AS) (N : Int) : Prop := BEq A B' ∧ CcOk A B' ∧ B 57 0 0 ≤ B' 57 0 0 ∧ B' 57 0 0 ≤ B 57 0 0 + N ∧ B 58 0 0 ≤ B' 58 0 0 ∧ B' 58 0 0 ≤ B 58 0 0 + N
theorem fold_cst {A : AS} {F : Int → AS → AS} {N : Int} {B : AS} (e : BEq A B) (o : CcOk A B) : ∀ m : Nat, (∀ i : Int, 0 ≤ i → i < m → ∀ C, BEq A C → CcOk A C → Cst A C (F i C) N) → 0 ≤ N → Cst A B (fold F m B) (m * N)
  | 0, _, _ => ⟨e, o, by simp [fold], by simp [fold], by simp [fold], by simp [fold]⟩
  | m + 1, h, hN => by
    obtain ⟨a1, a2, a3, a4, a5, a6⟩ := fold_cst e o m (fun i i0 i1 => h i i0 (by omega)) hN
    obtain ⟨b1, b2, b3, b4, b5, b6⟩ := h m (by omega) (by omega) _ a1 a2
    have en : ((m + 1 : Nat) : Int) * N = m * N + N := by rw [show ((m + 1 : Nat) : Int) = (m : Int) + 1 by omega, Int.add_mul]; omega
    rw [en]
    exact ⟨b1, b2, by simp only [fold]; omega, by simp only [fold]; omega, by simp only [fold]; omega, by simp only [fold]; omega⟩
theorem fnq_cst {A : AS} (I : IvV A) {q : Int} : ∀ (n : Nat) (v : Int) (r : Int → Int) (B : AS), exv A v → A 8 v 0 ≤ n → rowOk r → BEq A B → CcOk A B → Cst A B (fnq A q n v r B) (NN n)
  | 0, v, r, B, hv, hn, hr, e, o => ⟨e, o, by simp [fnq], by simp [fnq, NN], by simp [fnq], by simp [fnq, NN]⟩
  | n + 1, v, r, B, hv, hn, hr, e, o => by
    have i5 := I.2.2.2.2.1 v hv
    have i6 := I.2.2.2.2.2.2.2.1 v hv.1 (exv_rng I hv).2
    have hc := cns_ok I hv hr (A 4 v 0).toNat (by omega)
    have hF := fold_cst (F := fun i => fnq A q n (A 7 v i) (cns A v (A 4 v 0).toNat r)) (N := NN n) e o (A 6 v 0).toNat (fun i i0 i1 C e9 o9 => by
      have h3 := I.2.2.2.2.2.2.1 v i hv i0 (by omega)
      exact fnq_cst I n (A 7 v i) _ C h3.1 (by omega) hc e9 o9) (NN_nn n)
    have hN := NN_nn n
    have hM : ((A 6 v 0).toNat : Int) * NN n ≤ 3 * NN n := Int.mul_le_mul_of_nonneg_right (by omega) hN
    rw [fnq, NN]
    by_cases z : q = 1 ∧ ∃ k, isHit B v r k
    · rw [cif_pos z]
      refine ⟨fun g g1 g2 g3 g4 => ?_, ?_, ?_, ?_, ?_, ?_⟩
      · rw [← e g g1 g2 g3 g4]; funext i j; exact up_f g3
      · unfold CcOk; simp only [up_f (show (54 : Nat) ≠ 57 by decide), up_f (show (56 : Nat) ≠ 57 by decide)]; exact o
      · rw [up_s]; omega
      · rw [up_s]; omega
      · rw [up_f (by decide)]; omega
      · rw [up_f (by decide)]; omega
    · rw [cif_neg z]
      obtain ⟨a1, a2, a3, a4, a5, a6⟩ := hF
      by_cases y : q = 1
      · rw [if_pos y]
        refine ⟨fun g g1 g2 g3 g4 => ?_, pput_ok hv hr rfl a2 I, ?_, ?_, ?_, ?_⟩
        · rw [pput_f g1 g2 g4]; exact a1 g g1 g2 g3 g4
        · rw [pput_f (by decide) (by decide) (by decide)]; exact a3
        · rw [pput_f (by decide) (by decide) (by decide)]; omega
        · rw [pput_58]; omega
        · rw [pput_58]; omega
      · rw [if_neg y]
        exact ⟨a1, a2, a3, by omega, a5, by omega⟩
theorem fnq_0 {A : AS} : ∀ (n : Nat) (v : Int) (r : Int → Int) (B : AS), fnq A 0 n v r B = B
  | 0, _, _, _ => rfl
  | n + 1, v, r, B => by
    have hF : ∀ m : Nat, fold (fun i => fnq A 0 n (A 7 v i) (cns A v (A 4 v 0).toNat r)) m B = B := by
      intro m
      induction m with
      | zero => rfl
      | succ m ih => simp only [fold]; rw [ih, fnq_0 n]
    rw [fnq, cif_neg (fun z => absurd z.1 (by decide)), if_neg (by decide), hF]
theorem tdiv_bnd {x a b : Int} (h1 : -a ≤ x) (h2 : x ≤ a) (b0 : 0 < b) : -a ≤ x.tdiv b ∧ x.tdiv b ≤ a := by
  have := frac_rng (D := x) (a := 1) (b := b) (by omega) (by omega) b0
  rw [Int.mul_one] at this
  by_cases z : 0 ≤ x
  · have := this.1 z; omega
  · have := this.2 (by omega); omega
theorem mul_abs {x y a b : Int} (h1 : -a ≤ x) (h2 : x ≤ a) (y1 : -b ≤ y) (y2 : y ≤ b) (a0 : 0 ≤ a) : -(a * b) ≤ x * y ∧ x * y ≤ a * b := by
  by_cases z : 0 ≤ y
  · exact mul_bnd h1 h2 z y2 a0
  · have := mul_bnd (x := x) (y := -y) h1 h2 (by omega) (by omega : -y ≤ b) a0
    rw [Int.mul_neg] at this
    omega
