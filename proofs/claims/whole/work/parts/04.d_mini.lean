-- THE MINI-MACHINE: names for cells, whole numbers for ints, one heap of names
abbrev MV : Type := Int ⊕ (Option Nat) ⊕ Int
abbrev Mh : Type := (Nat → Nat) × (Nat → Int) × (Nat → Int → Int) × (Nat → Int → Option Nat)
abbrev Lcs : Type := List (Option MV)
abbrev Pd : Type := Lcs → List MV → Mh → Nat → Nat → Prop
abbrev Out : Type := Option MV ⊕ String
def Kd (h : Mh) : Nat → Nat := h.1
def Ln (h : Mh) : Nat → Int := h.2.1
def Mi (h : Mh) : Nat → Int → Int := h.2.2.1
def Mr (h : Mh) : Nat → Int → Option Nat := h.2.2.2
def setI (h : Mh) (n : Nat) (k v : Int) : Mh := (h.1, h.2.1, fun n' k' => if n' = n ∧ k' = k then v else h.2.2.1 n' k', h.2.2.2)
def setR (h : Mh) (n : Nat) (k : Int) (v : Option Nat) : Mh := (h.1, h.2.1, h.2.2.1, fun n' k' => if n' = n ∧ k' = k then v else h.2.2.2 n' k')
def alc (h : Mh) (n kind : Nat) (len : Int) : Mh := (fun n' => if n' = n then kind else h.1 n', fun n' => if n' = n then len else h.2.1 n', fun n' k => if n' = n then 0 else h.2.2.1 n' k, fun n' k => if n' = n then none else h.2.2.2 n' k)
theorem Kd_setI (h : Mh) (n : Nat) (k v : Int) : Kd (setI h n k v) = Kd h := rfl
theorem Ln_setI (h : Mh) (n : Nat) (k v : Int) : Ln (setI h n k v) = Ln h := rfl
theorem Mr_setI (h : Mh) (n : Nat) (k v : Int) : Mr (setI h n k v) = Mr h := rfl
theorem Mi_setI (h : Mh) (n : Nat) (k v : Int) (n' : Nat) (k' : Int) : Mi (setI h n k v) n' k' = if n' = n ∧ k' = k then v else Mi h n' k' := rfl
theorem Kd_setR (h : Mh) (n : Nat) (k : Int) (v : Option Nat) : Kd (setR h n k v) = Kd h := rfl
theorem Ln_setR (h : Mh) (n : Nat) (k : Int) (v : Option Nat) : Ln (setR h n k v) = Ln h := rfl
theorem Mi_setR (h : Mh) (n : Nat) (k : Int) (v : Option Nat) : Mi (setR h n k v) = Mi h := rfl
theorem Mr_setR (h : Mh) (n : Nat) (k : Int) (v : Option Nat) (n' : Nat) (k' : Int) : Mr (setR h n k v) n' k' = if n' = n ∧ k' = k then v else Mr h n' k' := rfl
theorem Kd_alc (h : Mh) (n kind : Nat) (len : Int) (n' : Nat) : Kd (alc h n kind len) n' = if n' = n then kind else Kd h n' := rfl
theorem Ln_alc (h : Mh) (n kind : Nat) (len : Int) (n' : Nat) : Ln (alc h n kind len) n' = if n' = n then len else Ln h n' := rfl
theorem Mi_alc (h : Mh) (n kind : Nat) (len : Int) (n' : Nat) (k : Int) : Mi (alc h n kind len) n' k = if n' = n then 0 else Mi h n' k := rfl
theorem Mr_alc (h : Mh) (n kind : Nat) (len : Int) (n' : Nat) (k : Int) : Mr (alc h n kind len) n' k = if n' = n then none else Mr h n' k := rfl
def rng (x : Int) : Prop := -2147483648 ≤ x ∧ x < 2147483648
def tv (ad : Nat → Nat) : MV → Value
  | .inl x => .int (Int32.ofInt x)
  | .inr (.inl r) => va_rf (r.map ad)
  | .inr (.inr x) => .long (Int64.ofInt x)
def okv (h : Mh) : MV → Prop
  | .inl x => rng x
  | .inr (.inl r) => ∀ n, r = some n → n = 0 ∨ Kd h n ≠ 0
  | .inr (.inr x) => rng x
def cat1 : MV → Prop
  | .inr (.inr _) => False
  | _ => True
-- a cell
def fvl (ad : Nat → Nat) (h : Mh) (ci n k : Nat) : Value := if ftR ci k = true then va_rf ((Mr h n k).map ad) else .int (Int32.ofInt (Mi h n k))
def ael (ad : Nat → Nat) (h : Mh) (n : Nat) : vp_A := ((Ln h n).toNat,
  if Kd h n ≤ 22 then .inl (fun j => Int32.ofInt (Mi h n (j : Int))) else if Kd h n = 23 then .inr (.inl (fun j => Int64.ofInt (Mi h n (j : Int)))) else .inr (.inr (.inr (.inr (fun j => (Mr h n (j : Int)).map ad)))))
def cel (cA : Nat → ClassId) (ad : Nat → Nat) (h : Mh) (n : Nat) : va_E :=
  if Kd h n ≤ 12 then .inr (Kd h n - 1, (List.range (nF (Kd h n - 1))).map (fvl ad h (Kd h n - 1) n)) else .inl (cA n, ael ad h n)
def wsO (cA : Nat → ClassId) (ad : Nat → Nat) (h : Mh) (dom : List Nat) : va_W := dom.map (fun n => (ad n, cel cA ad h n))
def aty (k : Nat) : FieldType := match k with
  | 21 => .int
  | 22 => .boolean
  | 23 => .long
  | 24 => .array .int
  | k => .object (rX (k - 30))
def Rep (D : va_G) (cA : Nat → ClassId) (ad : Nat → Nat) (h : Mh) (H : Heap) (A : Nat → Prop) (U : State) : Prop :=
  (∃ dom : List Nat, dom.Nodup ∧ (∀ n, n ∈ dom ↔ Kd h n ≠ 0) ∧ va_P D vwCl (wsO cA ad h dom) H ∧ va_D A (wsO cA ad h dom)) ∧
  (∀ n, 20 < Kd h n → ArrOfT U (cA n) (aty (Kd h n)) ∧ va_RA U (cA n) (aty (Kd h n))) ∧
  (∀ n i, rng (Mi h n i)) ∧ (∀ n, 0 ≤ Ln h n ∧ Ln h n < 2147483648) ∧ (∀ n, Kd h n ≤ 12 ∨ 20 < Kd h n) ∧ (∀ n k n', Mr h n k = some n' → Kd h n' ≠ 0) ∧ Kd h 0 = 0
theorem z_mapset {α β : Type} {dom : List α} {f f' : α → β} {q : Nat} {n : α} (hd : dom.Nodup) (hq : dom[q]? = some n) (hf : ∀ m, m ≠ n → f' m = f m) : dom.map f' = (dom.map f).set q (f' n) := by
  apply List.ext_getElem?
  intro i
  rw [List.getElem?_set, List.getElem?_map, List.getElem?_map, List.length_map]
  obtain ⟨hql, hqe⟩ := List.getElem?_eq_some_iff.mp hq
  by_cases hi : q = i
  · subst hi
    rw [if_pos rfl, if_pos hql, hq]; rfl
  · rw [if_neg hi]
    cases hx : dom[i]? with
    | none => rfl
    | some m =>
      have hne : m ≠ n := by
        intro he
        subst he
        obtain ⟨hil, hie⟩ := List.getElem?_eq_some_iff.mp hx
        exact hi ((List.getElem?_inj hql hd).mp (hq.trans hx.symm))
      simp [hf m hne]
theorem wsO_get {cA : Nat → ClassId} {ad : Nat → Nat} {h : Mh} {dom : List Nat} {n : Nat} (hn : n ∈ dom) : ∃ q : Nat, dom[q]? = some n ∧ (wsO cA ad h dom)[q]? = some (ad n, cel cA ad h n) := by
  obtain ⟨q, hq⟩ := List.getElem?_of_mem hn
  exact ⟨q, hq, by rw [wsO, List.getElem?_map, hq]; rfl⟩
theorem cel_obj {cA : Nat → ClassId} {ad : Nat → Nat} {h : Mh} {n ci : Nat} (hk : Kd h n = ci + 1) (hc : ci < 12) : cel cA ad h n = .inr (ci, (List.range (nF ci)).map (fvl ad h ci n)) := by
  unfold cel
  rw [hk, if_pos (by omega)]
  simp
theorem cel_arr {cA : Nat → ClassId} {ad : Nat → Nat} {h : Mh} {n : Nat} (hk : 20 < Kd h n) : cel cA ad h n = .inl (cA n, ael ad h n) := by
  unfold cel
  rw [if_neg (by omega)]
theorem ael_i {ad : Nat → Nat} {h : Mh} {n : Nat} (hk : Kd h n ≤ 22) : ael ad h n = ((Ln h n).toNat, .inl (fun j => Int32.ofInt (Mi h n (j : Int)))) := by
  unfold ael; rw [if_pos hk]
theorem ael_l {ad : Nat → Nat} {h : Mh} {n : Nat} (hk : Kd h n = 23) : ael ad h n = ((Ln h n).toNat, .inr (.inl (fun j => Int64.ofInt (Mi h n (j : Int))))) := by
  unfold ael; rw [if_neg (by omega), if_pos hk]
theorem ael_r {ad : Nat → Nat} {h : Mh} {n : Nat} (hk : 23 < Kd h n) : ael ad h n = ((Ln h n).toNat, .inr (.inr (.inr (.inr (fun j => (Mr h n (j : Int)).map ad))))) := by
  unfold ael; rw [if_neg (by omega), if_neg (by omega)]
theorem Rep.mem {D : va_G} {cA : Nat → ClassId} {ad : Nat → Nat} {h : Mh} {H : Heap} {A : Nat → Prop} {U : State} (R : Rep D cA ad h H A U) {n : Nat} (hn : Kd h n ≠ 0) :
    ∃ (dom : List Nat) (q : Nat), dom.Nodup ∧ (∀ n, n ∈ dom ↔ Kd h n ≠ 0) ∧ va_P D vwCl (wsO cA ad h dom) H ∧ va_D A (wsO cA ad h dom) ∧ dom[q]? = some n ∧ (wsO cA ad h dom)[q]? = some (ad n, cel cA ad h n) := by
  obtain ⟨⟨dom, h1, h2, h3, h4⟩, -⟩ := R
  obtain ⟨q, e1, e2⟩ := wsO_get (cA := cA) (ad := ad) (h := h) ((h2 n).mpr hn)
  exact ⟨dom, q, h1, h2, h3, h4, e1, e2⟩
theorem Rep.arr {D : va_G} {cA : Nat → ClassId} {ad : Nat → Nat} {h : Mh} {H : Heap} {A : Nat → Prop} {U : State} (R : Rep D cA ad h H A U) {n : Nat} (hn : 20 < Kd h n) (hK : va_K D vwCl [] U) : va_K D vwCl [(cA n, aty (Kd h n))] U := by
  refine ⟨hK.1, fun k q hq => ?_⟩
  match k, hq with
  | 0, hq => cases hq; exact R.2.1 n hn
  | k + 1, hq => simp at hq
/-- one place of one cell is written -/
theorem Rep.upd {D : va_G} {cA : Nat → ClassId} {ad : Nat → Nat} {h h' : Mh} {H H1 : Heap} {A : Nat → Prop} {U : State} (R : Rep D cA ad h H A U) {n q : Nat} {dom : List Nat} (h1 : dom.Nodup) (h2 : ∀ n, n ∈ dom ↔ Kd h n ≠ 0) (hq : dom[q]? = some n)
    (hk : Kd h' = Kd h) (hl : Ln h' = Ln h) (hc : ∀ m, m ≠ n → cel cA ad h' m = cel cA ad h m) (hi : ∀ n i, rng (Mi h' n i)) (hr : ∀ n k n', Mr h' n k = some n' → Kd h n' ≠ 0)
    (hP : va_P D vwCl ((wsO cA ad h dom).set q (ad n, cel cA ad h' n)) H1) (hD : va_D A ((wsO cA ad h dom).set q (ad n, cel cA ad h' n))) : Rep D cA ad h' H1 A U := by
  have e : wsO cA ad h' dom = (wsO cA ad h dom).set q (ad n, cel cA ad h' n) := z_mapset (f := fun n => (ad n, cel cA ad h n)) (f' := fun n => (ad n, cel cA ad h' n)) h1 hq (fun m hm => by rw [hc m hm])
  refine ⟨⟨dom, h1, by rw [hk]; exact h2, by rw [e]; exact hP, by rw [e]; exact hD⟩, by rw [hk]; exact R.2.1, hi, by rw [hl]; exact R.2.2.2.1, by rw [hk]; exact R.2.2.2.2.1, by rw [hk]; exact hr, by rw [hk]; exact R.2.2.2.2.2.2⟩
theorem fvl_at {ad : Nat → Nat} {h : Mh} {ci n k : Nat} (hk : k < nF ci) : ((List.range (nF ci)).map (fvl ad h ci n))[k]? = some (fvl ad h ci n k) := by
  simp [hk]
theorem fvl_i {ad : Nat → Nat} {h : Mh} {ci n k : Nat} (hf : ftR ci k = false) : fvl ad h ci n k = .int (Int32.ofInt (Mi h n k)) := by
  unfold fvl; rw [if_neg (by rw [hf]; decide)]
theorem fvl_r {ad : Nat → Nat} {h : Mh} {ci n k : Nat} (hf : ftR ci k = true) : fvl ad h ci n k = va_rf ((Mr h n k).map ad) := by
  unfold fvl; rw [if_pos hf]
theorem cel_setI_ne {cA : Nat → ClassId} {ad : Nat → Nat} {h : Mh} {n m : Nat} {k v : Int} (hm : m ≠ n) : cel cA ad (setI h n k v) m = cel cA ad h m := by
  have e : ∀ j : Int, Mi (setI h n k v) m j = Mi h m j := fun j => by rw [Mi_setI, if_neg (fun q => hm q.1)]
  unfold cel
  rw [Kd_setI]
  have e1 : ∀ c, fvl ad (setI h n k v) c m = fvl ad h c m := fun c => by funext j; unfold fvl; rw [e, Mr_setI]
  have e2 : ael ad (setI h n k v) m = ael ad h m := by unfold ael; simp only [Kd_setI, Ln_setI, Mr_setI, e]
  rw [e1, e2]
theorem cel_setR_ne {cA : Nat → ClassId} {ad : Nat → Nat} {h : Mh} {n m : Nat} {k : Int} {v : Option Nat} (hm : m ≠ n) : cel cA ad (setR h n k v) m = cel cA ad h m := by
  have e : ∀ j : Int, Mr (setR h n k v) m j = Mr h m j := fun j => by rw [Mr_setR, if_neg (fun q => hm q.1)]
  unfold cel
  rw [Kd_setR]
  have e1 : ∀ c, fvl ad (setR h n k v) c m = fvl ad h c m := fun c => by funext j; unfold fvl; rw [e, Mi_setR]
  have e2 : ael ad (setR h n k v) m = ael ad h m := by unfold ael; simp only [Kd_setR, Ln_setR, Mi_setR, e]
  rw [e1, e2]
theorem fvls_setI {ad : Nat → Nat} {h : Mh} {n ci k : Nat} {v : Int} (hf : ftR ci k = false) : (List.range (nF ci)).map (fvl ad (setI h n k v) ci n) = ((List.range (nF ci)).map (fvl ad h ci n)).set k (.int (Int32.ofInt v)) := by
  apply List.ext_getElem?
  intro i
  rw [List.getElem?_set, List.getElem?_map, List.getElem?_map, List.length_map, List.length_range]
  by_cases hi : i < nF ci
  · rw [List.getElem?_range hi]
    by_cases e : k = i
    · subst e
      rw [if_pos rfl, if_pos hi]
      show some (fvl ad (setI h n k v) ci n k) = _
      rw [fvl_i hf, Mi_setI, if_pos ⟨rfl, rfl⟩]
    · rw [if_neg e]
      show some (fvl ad (setI h n k v) ci n i) = some (fvl ad h ci n i)
      have e9 : ¬ ((i : Int) = (k : Int)) := fun q => e (by omega)
      simp [fvl, Mi_setI, Mr_setI, e9]
  · rw [List.getElem?_eq_none (by simpa using hi)]
    by_cases e : k = i
    · subst e; rw [if_pos rfl, if_neg hi]; rfl
    · rw [if_neg e]; rfl
theorem fvls_setR {ad : Nat → Nat} {h : Mh} {n ci k : Nat} {v : Option Nat} (hf : ftR ci k = true) : (List.range (nF ci)).map (fvl ad (setR h n k v) ci n) = ((List.range (nF ci)).map (fvl ad h ci n)).set k (va_rf (v.map ad)) := by
  apply List.ext_getElem?
  intro i
  rw [List.getElem?_set, List.getElem?_map, List.getElem?_map, List.length_map, List.length_range]
  by_cases hi : i < nF ci
  · rw [List.getElem?_range hi]
    by_cases e : k = i
    · subst e
      rw [if_pos rfl, if_pos hi]
      show some (fvl ad (setR h n k v) ci n k) = _
      rw [fvl_r hf, Mr_setR, if_pos ⟨rfl, rfl⟩]
    · rw [if_neg e]
      show some (fvl ad (setR h n k v) ci n i) = some (fvl ad h ci n i)
      have e9 : ¬ ((i : Int) = (k : Int)) := fun q => e (by omega)
      simp [fvl, Mi_setR, Mr_setR, e9]
  · rw [List.getElem?_eq_none (by simpa using hi)]
    by_cases e : k = i
    · subst e; rw [if_pos rfl, if_neg hi]; rfl
    · rw [if_neg e]; rfl
theorem rng_setI {h : Mh} {n : Nat} {k v : Int} (hi : ∀ n i, rng (Mi h n i)) (hv : rng v) : ∀ n' i, rng (Mi (setI h n k v) n' i) := by
  intro n' i
  rw [Mi_setI]
  split
  · exact hv
  · exact hi n' i
-- numbers
theorem i32_to {x : Int} (h : rng x) : (Int32.ofInt x).toInt = x := Int32.toInt_ofInt_of_le (by have := h.1; omega) (by have := h.2; omega)
theorem i32_lt {x y : Int} (hx : rng x) (hy : rng y) : Int32.ofInt x < Int32.ofInt y ↔ x < y := by rw [Int32.lt_iff_toInt_lt, i32_to hx, i32_to hy]
theorem i32_le {x y : Int} (hx : rng x) (hy : rng y) : Int32.ofInt x ≤ Int32.ofInt y ↔ x ≤ y := by rw [Int32.le_iff_toInt_le, i32_to hx, i32_to hy]
theorem i32_eq {x y : Int} (hx : rng x) (hy : rng y) : Int32.ofInt x = Int32.ofInt y ↔ x = y := by
  constructor
  · intro h
    have := congrArg Int32.toInt h
    rwa [i32_to hx, i32_to hy] at this
  · rintro rfl; rfl
theorem i32_in {i : Int} {n : Int} (hi : 0 ≤ i) (hin : i < n) (hn : n < 2147483648) : vp_in (Int32.ofInt i) n.toNat := by
  have hr : rng i := ⟨by omega, by omega⟩
  exact vp_in_iff.mpr ⟨by rw [i32_to hr]; exact hi, by rw [i32_to hr]; omega⟩
theorem i32_cl {i : Int} (hi : 0 ≤ i) (hin : i < 2147483648) : (Int32.ofInt i).toNatClampNeg = i.toNat := by
  have hr : rng i := ⟨by omega, by omega⟩
  show (Int32.ofInt i).toInt.toNat = _
  rw [i32_to hr]
theorem i32_div {x y : Int} (hx : rng x) (hy : rng y) (h : rng (x.tdiv y)) : Int32.ofInt x / Int32.ofInt y = Int32.ofInt (x.tdiv y) := by
  apply Int32.toInt_inj.mp
  rw [i32_to h, Int32.toInt_div, i32_to hx, i32_to hy]
  have h1 := h.1
  have h2 := h.2
  rw [Int.bmod_eq_of_le (by omega) (by omega)]
theorem i32_rem {x y : Int} (hx : rng x) (hy : rng y) : Int32.ofInt x - Int32.ofInt x / Int32.ofInt y * Int32.ofInt y = Int32.ofInt (x.tmod y) := by
  apply Int32.toInt_inj.mp
  rw [rem_toInt, i32_to hx, i32_to hy]
  refine (i32_to ?_).symm
  have h1 := hx.1
  have h2 := hx.2
  have h3 := Int.natAbs_tmod x y
  have h4 := Nat.mod_le x.natAbs y.natAbs
  by_cases h0 : 0 ≤ x
  · have := Int.tmod_nonneg y h0
    exact ⟨by omega, by omega⟩
  · have h5 : 0 ≤ (-x).tmod y := Int.tmod_nonneg y (by omega)
    rw [Int.neg_tmod] at h5
    exact ⟨by omega, by omega⟩
