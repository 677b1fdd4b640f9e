-- THE CLASS: its cells, in the state's words. Names: the object 2, the arrays 10 to 14, the cache 15 (17 to 20, rows 100+, 200+), the farm 16 (21, 22), an asset 300+a (320+a), a version 10000+20j (j: its place among the published), a shot 20000+200s, its frame c 20010+200s+10c, a note 30000+k, a delivery 31000+2k, a machine 32000+m
def Sam (h h' : Mh) (n : Nat) : Prop := Kd h' n = Kd h n ∧ Ln h' n = Ln h n ∧ Mi h' n = Mi h n ∧ Mr h' n = Mr h n
/-- what a call of the class leaves as it was -/
def Sx (h h' : Mh) : Prop := ∀ n, n ≠ 2 → n < 10 ∨ (1000 ≤ n ∧ n < 10000) → Sam h h' n
theorem Sam.rfl' {h : Mh} {n : Nat} : Sam h h n := ⟨rfl, rfl, rfl, rfl⟩
theorem Sam.trans {h h1 h2 : Mh} {n : Nat} (a : Sam h h1 n) (b : Sam h1 h2 n) : Sam h h2 n := ⟨b.1.trans a.1, b.2.1.trans a.2.1, b.2.2.1.trans a.2.2.1, b.2.2.2.trans a.2.2.2⟩
theorem Sam.setI {h h' : Mh} {n m : Nat} {k v : Int} (a : Sam h h' n) (hn : n ≠ m) : Sam h (setI h' m k v) n := ⟨a.1, a.2.1, by rw [← a.2.2.1]; funext i; rw [Mi_setI, if_neg (fun q => hn q.1)], a.2.2.2⟩
theorem Sam.setR {h h' : Mh} {n m : Nat} {k : Int} {v : Option Nat} (a : Sam h h' n) (hn : n ≠ m) : Sam h (setR h' m k v) n := ⟨a.1, a.2.1, a.2.2.1, by rw [← a.2.2.2]; funext i; rw [Mr_setR, if_neg (fun q => hn q.1)]⟩
theorem Sam.alc {h h' : Mh} {n m kd : Nat} {l : Int} (a : Sam h h' n) (hn : n ≠ m) : Sam h (alc h' m kd l) n := ⟨by rw [Kd_alc, if_neg hn]; exact a.1, by rw [Ln_alc, if_neg hn]; exact a.2.1, by rw [← a.2.2.1]; funext i; rw [Mi_alc, if_neg hn], by rw [← a.2.2.2]; funext i; rw [Mr_alc, if_neg hn]⟩
theorem Sx.rfl' {h : Mh} : Sx h h := fun _ _ _ => Sam.rfl'
theorem Sx.trans {h h1 h2 : Mh} (a : Sx h h1) (b : Sx h1 h2) : Sx h h2 := fun n n2 nr => (a n n2 nr).trans (b n n2 nr)
abbrev xnm (n : Nat) : Prop := n = 2 ∨ (10 ≤ n ∧ n < 1000) ∨ 10000 ≤ n
theorem Sx.setI {h h' : Mh} {m : Nat} {k v : Int} (a : Sx h h') (hm : xnm m) : Sx h (setI h' m k v) := fun n n2 nr => (a n n2 nr).setI (by omega)
theorem Sx.setR {h h' : Mh} {m : Nat} {k : Int} {v : Option Nat} (a : Sx h h') (hm : xnm m) : Sx h (setR h' m k v) := fun n n2 nr => (a n n2 nr).setR (by omega)
theorem Sx.alc {h h' : Mh} {m kd : Nat} {l : Int} (a : Sx h h') (hm : xnm m) : Sx h (alc h' m kd l) := fun n n2 nr => (a n n2 nr).alc (by omega)
def vN (A : AS) (v : Int) : Nat := 10000 + 20 * (A 100 v 0).toNat
def sN (s : Int) : Nat := 20000 + 200 * s.toNat
def cN (s c : Int) : Nat := 20010 + 200 * s.toNat + 10 * c.toNat
def fN (A : AS) (f : Int) : Nat := 20010 + 200 * (f / 16).toNat + 10 * (A 103 f 0).toNat
def pN (A : AS) (v : Int) : Option Nat := if v = -1 then none else some (vN A v)
/-- the object and its rows -/
def RCx (A : AS) (h : Mh) : Prop := Kd h 2 = 11 ∧ Mr h 2 0 = some 10 ∧ Mr h 2 2 = some 11 ∧ Mr h 2 5 = some 12 ∧ Mr h 2 7 = some 15 ∧ Mr h 2 8 = some 16 ∧ Mr h 2 9 = some 13 ∧ Mr h 2 11 = some 14 ∧
  Mi h 2 1 = A 1 0 0 ∧ Mi h 2 3 = A 102 0 0 ∧ Mr h 2 4 = some (10000 + 20 * (A 102 0 0).toNat) ∧ Mi h 2 6 = A 16 0 0 ∧ Mi h 2 10 = A 47 0 0 ∧ Mi h 2 12 = A 51 0 0 ∧
  Kd h 10 = 30 ∧ Ln h 10 = 10 ∧ Kd h 11 = 39 ∧ Ln h 11 = 60 ∧ Kd h 12 = 38 ∧ Ln h 12 = 5 ∧ Kd h 13 = 37 ∧ Ln h 13 = 30 ∧ Kd h 14 = 33 ∧ Ln h 14 = 20 ∧
  (∀ a, 0 ≤ a → a < A 1 0 0 → Mr h 10 a = some (300 + a.toNat)) ∧ (∀ j, 0 ≤ j → j < A 102 0 0 → Mr h 11 j = some (10000 + 20 * j.toNat)) ∧ (∀ s, 0 ≤ s → s < A 16 0 0 → Mr h 12 s = some (sN s)) ∧ (∀ k, 0 ≤ k → k < A 47 0 0 → Mr h 13 k = some (30000 + k.toNat)) ∧ (∀ k, 0 ≤ k → k < A 51 0 0 → Mr h 14 k = some (31000 + 2 * k.toNat))
def RCa (A : AS) (h : Mh) : Prop := (∀ a, 0 ≤ a → a < A 1 0 0 → Kd h (300 + a.toNat) = 1 ∧ Mr h (300 + a.toNat) 0 = some (320 + a.toNat) ∧ Mi h (300 + a.toNat) 1 = A 2 a 0 ∧ Kd h (320 + a.toNat) = 39 ∧ Ln h (320 + a.toNat) = 6 ∧ ∀ i, 0 ≤ i → i < A 2 a 0 → Mr h (320 + a.toNat) i = some (vN A (6 * a + i))) ∧
  (∀ a, A 1 0 0 ≤ a → a < 20 → Kd h (300 + a.toNat) = 0 ∧ Kd h (320 + a.toNat) = 0)
/-- a version's object at b, and all that is its own -/
def VObj (h : Mh) (b : Nat) (ct cc : Int) (con : Int → Int) (pc : Int) (par : Int → Nat) (ht rt ap : Int) : Prop :=
  (Kd h b = 10 ∧ Mr h b 1 = some (b + 1) ∧ Mr h b 3 = some (b + 2) ∧ Kd h (b + 1) = 32 ∧ Ln h (b + 1) = 6 ∧ Kd h (b + 2) = 39 ∧ Ln h (b + 2) = 3) ∧
  (Mi h b 0 = ct ∧ Mi h b 2 = cc ∧ Mi h b 4 = pc ∧ Mi h b 5 = ht ∧ Mi h b 6 = rt ∧ Mi h b 7 = ap) ∧
  (∀ i, 0 ≤ i → i < cc → Mr h (b + 1) i = some (b + 3 + i.toNat) ∧ Kd h (b + 3 + i.toNat) = 3 ∧ Mi h (b + 3 + i.toNat) 0 = con (4 * i) ∧ Mi h (b + 3 + i.toNat) 1 = con (4 * i + 1) ∧ Mi h (b + 3 + i.toNat) 2 = con (4 * i + 2) ∧ Mi h (b + 3 + i.toNat) 3 = con (4 * i + 3)) ∧
  (∀ i, 0 ≤ i → i < pc → Mr h (b + 2) i = some (par i)) ∧ (∀ i, cc ≤ i → i < 6 → Kd h (b + 3 + i.toNat) = 0)
def VPub (A : AS) (h : Mh) (v : Int) : Prop := VObj h (vN A v) (A 3 v 0) (A 4 v 0) (A 5 v) (A 6 v 0) (fun i => vN A (A 7 v i)) (A 8 v 0) (A 9 v 0) (A 10 v 0)
def VDra (A : AS) (h : Mh) : Prop := VObj h (10000 + 20 * (A 102 0 0).toNat) (A 11 0 0) (A 12 0 0) (fun k => A 13 k 0) (A 14 0 0) (fun i => vN A (A 15 i 0)) (mxh A (A 14 0 0).toNat + 1) 0 0
def RCv (A : AS) (h : Mh) : Prop := (∀ v, exv A v → VPub A h v) ∧ VDra A h ∧ (∀ n, 10020 + 20 * (A 102 0 0).toNat ≤ n → n < 20000 → Kd h n = 0)
/-- a shot's object and its rows -/
def SObj (A : AS) (h : Mh) (s : Int) : Prop :=
  (Kd h (sN s) = 9 ∧ Mr h (sN s) 1 = some (sN s + 1) ∧ Mr h (sN s) 2 = some (sN s + 2) ∧ Mr h (sN s) 5 = some (sN s + 3) ∧ Kd h (sN s + 1) = 35 ∧ Ln h (sN s + 1) = 16 ∧ Kd h (sN s + 2) = 35 ∧ Ln h (sN s + 2) = 16 ∧ Kd h (sN s + 3) = 39 ∧ Ln h (sN s + 3) = 4 ∧ Mi h (sN s) 0 = s) ∧
  (Mi h (sN s) 3 = A 17 s 0 ∧ Mi h (sN s) 4 = A 20 s 0 ∧ Mi h (sN s) 6 = A 23 s 0 ∧ Mi h (sN s) 7 = A 27 s 0 ∧ Mi h (sN s) 8 = A 28 s 0 ∧ Mi h (sN s) 9 = A 31 s 0 ∧ Mi h (sN s) 10 = A 29 s 0 ∧ Mi h (sN s) 11 = A 30 s 0) ∧
  (∀ p, 0 ≤ p → p < 16 → Mr h (sN s + 1) p = some (cN s (A 105 s p))) ∧
  (∀ k, 0 ≤ k → k < 4 → Mr h (sN s + 3) k = pN A (A 22 s k))
/-- a frame's object: what never changes -/
def FObj (h : Mh) (s c : Int) : Prop := Kd h (cN s c) = 6 ∧ Mr h (cN s c) 0 = some (sN s) ∧ Mr h (cN s c) 2 = some (cN s c + 1) ∧ Mr h (cN s c) 3 = some (cN s c + 2) ∧ Mr h (cN s c) 8 = some (cN s c + 3) ∧ Mr h (cN s c) 9 = some (cN s c + 4) ∧
  Kd h (cN s c + 1) = 22 ∧ Ln h (cN s c + 1) = 16 ∧ Kd h (cN s c + 2) = 21 ∧ Ln h (cN s c + 2) = 16 ∧ Kd h (cN s c + 3) = 39 ∧ Ln h (cN s c + 3) = 4 ∧ Kd h (cN s c + 4) = 21 ∧ Ln h (cN s c + 4) = 16
/-- the keys of the frame at a place of the class's row (none for a spare one) -/
def FKey (A : AS) (h : Mh) (s p : Int) : Prop := ∀ l, 0 ≤ l → l < 16 → (p < A 17 s 0 → Mi h (cN s (A 105 s p) + 1) l = A 24 (A 18 s p) l ∧ (A 24 (A 18 s p) l ≠ 0 → Mi h (cN s (A 105 s p) + 2) l = A 25 (A 18 s p) l)) ∧ (A 17 s 0 ≤ p → Mi h (cN s (A 105 s p) + 1) l = 0)
def FNam (A : AS) (h : Mh) (s p : Int) : Prop := p < A 17 s 0 → Mi h (cN s (A 105 s p)) 1 = A 21 (A 18 s p) 0
/-- where it is to be rendered, and its tries -/
def FSta (A : AS) (h : Mh) (s p : Int) : Prop := (p < A 17 s 0 → Whr A (A 18 s p) (Mi h (cN s (A 105 s p)) 4) ∧ (Mi h (cN s (A 105 s p)) 4 ≠ 0 → Mi h (cN s (A 105 s p)) 5 = A 44 (A 18 s p) 0)) ∧ (A 17 s 0 ≤ p → Mi h (cN s (A 105 s p)) 4 = 0)
/-- its image, and what that was made of -/
def FImg (A : AS) (h : Mh) (s p : Int) : Prop := (p < A 17 s 0 → (A 32 (A 18 s p) 0 = -1 → Mi h (cN s (A 105 s p)) 6 = 0) ∧ (A 32 (A 18 s p) 0 ≠ -1 → Mi h (cN s (A 105 s p)) 6 = 1 ∧ Mi h (cN s (A 105 s p)) 7 = A 32 (A 18 s p) 0 ∧ Mi h (cN s (A 105 s p)) 10 = A 34 (A 18 s p) 20 ∧ Mi h (cN s (A 105 s p)) 11 = A 34 (A 18 s p) 21 ∧
    ∀ k, 0 ≤ k → k < 4 → Mr h (cN s (A 105 s p) + 3) k = pN A (A 34 (A 18 s p) k) ∧ (A 34 (A 18 s p) k ≠ -1 → ∀ l, 0 ≤ l → l < 4 → Mi h (cN s (A 105 s p) + 4) (4 * k + l) = A 34 (A 18 s p) (4 + 4 * k + l)))) ∧ (A 17 s 0 ≤ p → Mi h (cN s (A 105 s p)) 6 = 0)
def RCs (A : AS) (h : Mh) : Prop := (∀ s, 0 ≤ s → s < A 16 0 0 → SObj A h s) ∧ (∀ n, 20000 + 200 * (A 16 0 0).toNat ≤ n → n < 30000 → Kd h n = 0)
def RCo (A : AS) (h : Mh) : Prop := ∀ s c, 0 ≤ s → s < A 16 0 0 → 0 ≤ c → c < 16 → FObj h s c
def RCk (A : AS) (h : Mh) : Prop := ∀ s p, 0 ≤ s → s < A 16 0 0 → 0 ≤ p → p < 16 → FKey A h s p ∧ FNam A h s p
def RCt (A : AS) (h : Mh) : Prop := ∀ s p, 0 ≤ s → s < A 16 0 0 → 0 ≤ p → p < 16 → FSta A h s p
def RCi (A : AS) (h : Mh) : Prop := ∀ s p, 0 ≤ s → s < A 16 0 0 → 0 ≤ p → p < 16 → FImg A h s p
/-- the machines, the queue, the disk -/
def RCm (A : AS) (h : Mh) : Prop := (Kd h 16 = 5 ∧ Mr h 16 0 = some 21 ∧ Mr h 16 2 = some 22 ∧ Mr h 16 8 = some 15 ∧ Kd h 21 = 36 ∧ Ln h 21 = 4 ∧ Kd h 22 = 35 ∧ Ln h 22 = 80) ∧
  (Mi h 16 1 = A 36 0 0 ∧ Mi h 16 3 = A 42 0 0 ∧ Mi h 16 4 = A 35 0 0 ∧ Mi h 16 6 = A 45 0 0 ∧ Mi h 16 7 = A 46 0 0) ∧
  (∀ m, 0 ≤ m → m < A 36 0 0 → Mr h 21 m = some (32000 + m.toNat) ∧ Kd h (32000 + m.toNat) = 7 ∧ Mi h (32000 + m.toNat) 0 = m ∧ Mi h (32000 + m.toNat) 1 = A 37 m 0 ∧ Mi h (32000 + m.toNat) 2 = A 38 m 0 ∧ Mr h (32000 + m.toNat) 3 = (if A 39 m 0 = -1 then none else some (fN A (A 39 m 0))) ∧ Mi h (32000 + m.toNat) 4 = A 40 m 0 ∧ Mi h (32000 + m.toNat) 5 = A 41 m 0) ∧
  (∀ k, 0 ≤ k → k < A 42 0 0 → Mr h 22 k = some (fN A (A 43 k 0))) ∧ (∀ m, A 36 0 0 ≤ m → m < 4 → Kd h (32000 + m.toNat) = 0)
def RCu (A : AS) (h : Mh) : Prop := Mi h 16 5 = lft A 80
/-- the cache: the entry k from the oldest -/
def RCc (A : AS) (h : Mh) : Prop := (Kd h 15 = 2 ∧ Mr h 15 0 = some 17 ∧ Mr h 15 1 = some 18 ∧ Mr h 15 2 = some 19 ∧ Mr h 15 7 = some 20 ∧ Kd h 17 = 39 ∧ Ln h 17 = 60 ∧ Kd h 18 = 24 ∧ Ln h 18 = 60 ∧ Kd h 19 = 21 ∧ Ln h 19 = 60 ∧ Kd h 20 = 24 ∧ Ln h 20 = 5) ∧
  (∀ i, 0 ≤ i → i < 60 → Mr h 18 i = some (100 + i.toNat) ∧ Kd h (100 + i.toNat) = 21 ∧ Ln h (100 + i.toNat) = 4) ∧ (∀ i, 0 ≤ i → i < 5 → Mr h 20 i = some (200 + i.toNat) ∧ Kd h (200 + i.toNat) = 21 ∧ Ln h (200 + i.toNat) = 4) ∧
  (Mi h 15 4 = A 54 0 0 ∧ Mi h 15 5 = A 57 0 0 ∧ Mi h 15 6 = A 58 0 0 ∧ 0 ≤ Mi h 15 3 ∧ Mi h 15 3 < 60 ∧ (A 54 0 0 < 60 → Mi h 15 3 = A 54 0 0)) ∧
  (∀ k, 0 ≤ k → k < A 54 0 0 → Mr h 17 ((Mi h 15 3 + (60 - A 54 0 0) + k) % 60) = some (vN A (A 56 k 0)) ∧ Mi h 19 ((Mi h 15 3 + (60 - A 54 0 0) + k) % 60) = A 56 k 5 ∧ ∀ c, 0 ≤ c → c < 4 → Mi h (100 + ((Mi h 15 3 + (60 - A 54 0 0) + k) % 60).toNat) c = A 56 k (1 + c))
def RCn (A : AS) (h : Mh) : Prop := (∀ k, 0 ≤ k → k < A 47 0 0 → Kd h (30000 + k.toNat) = 8 ∧ Mi h (30000 + k.toNat) 2 = A 49 k 0 ∧ Mi h (30000 + k.toNat) 3 = A 50 k 0 ∧ (A 48 k 0 ≠ -1 → Mr h (30000 + k.toNat) 0 = some (sN (A 48 k 0 / 16)) ∧ Mi h (30000 + k.toNat) 1 = A 21 (A 48 k 0) 0) ∧
    (A 48 k 0 = -1 → ∃ s, 0 ≤ s ∧ s < A 16 0 0 ∧ Mr h (30000 + k.toNat) 0 = some (sN s) ∧ Mi h (30000 + k.toNat) 1 < A 20 s 0 ∧ ∀ p, 0 ≤ p → p < A 17 s 0 → A 21 (A 18 s p) 0 ≠ Mi h (30000 + k.toNat) 1)) ∧ (∀ n, 30000 + (A 47 0 0).toNat ≤ n → n < 31000 → Kd h n = 0)
def RCd (A : AS) (h : Mh) : Prop := (∀ k, 0 ≤ k → k < A 51 0 0 → Kd h (31000 + 2 * k.toNat) = 4 ∧ Mr h (31000 + 2 * k.toNat) 0 = some (31001 + 2 * k.toNat) ∧ Kd h (31001 + 2 * k.toNat) = 21 ∧ Ln h (31001 + 2 * k.toNat) = A 52 k 0 ∧ ∀ p, 0 ≤ p → p < A 52 k 0 → Mi h (31001 + 2 * k.toNat) p = A 53 k p) ∧ (∀ n, 31000 + 2 * (A 51 0 0).toNat ≤ n → n < 32000 → Kd h n = 0)
def RC (A : AS) (h : Mh) : Prop := RCx A h ∧ RCa A h ∧ RCv A h ∧ RCs A h ∧ RCo A h ∧ RCk A h ∧ RCt A h ∧ RCi A h ∧ RCm A h ∧ RCu A h ∧ RCc A h ∧ RCn A h ∧ RCd A h
/-- the ghosts: the order of publishing; which object a frame is -/
def IvG (A : AS) : Prop := 0 ≤ A 102 0 0 ∧ A 102 0 0 ≤ 60 ∧ (∀ v, exv A v → 0 ≤ A 100 v 0 ∧ A 100 v 0 < A 102 0 0 ∧ A 101 (A 100 v 0) 0 = v) ∧ (∀ j, 0 ≤ j → j < A 102 0 0 → exv A (A 101 j 0) ∧ A 100 (A 101 j 0) 0 = j) ∧
  (∀ v i, exv A v → 0 ≤ i → i < A 6 v 0 → A 100 (A 7 v i) 0 < A 100 v 0) ∧
  (∀ s p, 0 ≤ s → s < 5 → 0 ≤ p → p < 16 → 0 ≤ A 105 s p ∧ A 105 s p < 16) ∧ (∀ s p p', 0 ≤ s → s < 5 → 0 ≤ p → p < p' → p' < 16 → A 105 s p ≠ A 105 s p') ∧
  (∀ s p, 0 ≤ s → s < 5 → 0 ≤ p → p < A 17 s 0 → A 103 (A 18 s p) 0 = A 105 s p)
-- groups that nothing touches
abbrev gX : List Nat := [1, 16, 47, 51, 102]
abbrev gA : List Nat := [1, 2, 100]
abbrev gV : List Nat := [1, 2, 3, 4, 5, 6, 7, 8, 9, 10, 11, 12, 13, 14, 15, 100, 102]
abbrev gS : List Nat := [16, 17, 20, 22, 23, 27, 28, 29, 30, 31, 100, 105]
abbrev gK : List Nat := [16, 17, 18, 21, 24, 25, 105]
abbrev gT : List Nat := [16, 17, 18, 36, 39, 42, 43, 44, 105]
abbrev gI : List Nat := [16, 17, 18, 32, 34, 100, 105]
abbrev gM : List Nat := [35, 36, 37, 38, 39, 40, 41, 42, 43, 45, 46, 103]
abbrev gC : List Nat := [54, 56, 57, 58, 100]
abbrev gN : List Nat := [16, 17, 18, 20, 21, 47, 48, 49, 50]
abbrev gD : List Nat := [51, 52, 53]
theorem RCx.of {A B : AS} {h h' : Mh} (R : RCx A h) (e : ∀ g, g ∈ gX → B g = A g) (s : ∀ n, n = 2 ∨ (10 ≤ n ∧ n < 15) → Sam h h' n) : RCx B h' := by
  obtain ⟨k2, l2, i2, r2⟩ := s 2 (by omega)
  obtain ⟨k10, l10, i10, r10⟩ := s 10 (by omega)
  obtain ⟨k11, l11, i11, r11⟩ := s 11 (by omega)
  obtain ⟨k12, l12, i12, r12⟩ := s 12 (by omega)
  obtain ⟨k13, l13, i13, r13⟩ := s 13 (by omega)
  obtain ⟨k14, l14, i14, r14⟩ := s 14 (by omega)
  unfold RCx at *
  rw [e 1 (by decide), e 16 (by decide), e 47 (by decide), e 51 (by decide), e 102 (by decide), k2, r2, i2, k10, l10, r10, k11, l11, r11, k12, l12, r12, k13, l13, r13, k14, l14, r14]
  exact R
theorem vN_of {A B : AS} (e : B 100 = A 100) : vN B = vN A := by funext v; unfold vN; rw [e]
theorem pN_of {A B : AS} (e : B 100 = A 100) : pN B = pN A := by funext v; unfold pN; rw [vN_of e]
theorem RCa.of {A B : AS} {h h' : Mh} (R : RCa A h) (e : ∀ g, g ∈ gA → B g = A g) (s : ∀ n, 300 ≤ n → n < 340 → Sam h h' n) : RCa B h' := by
  unfold RCa at *
  rw [e 1 (by decide), e 2 (by decide), vN_of (e 100 (by decide))]
  refine ⟨fun a a0 a1 => ?_, fun a a0 a1 => ?_⟩
  · by_cases z : a < 20
    · obtain ⟨k1, l1, i1, r1⟩ := s (300 + a.toNat) (by omega) (by omega)
      obtain ⟨k2, l2, i2, r2⟩ := s (320 + a.toNat) (by omega) (by omega)
      rw [k1, i1, r1, k2, l2, r2]
      exact R.1 a a0 a1
    · have h1 := R.1 a a0 a1
      have h2 := R.1 19 (by omega) (by omega)
      have h3 := R.1 0 (by omega) (by omega)
      have h4 := R.1 20 (by omega) (by omega)
      have x1 : Kd h 320 = 39 := h3.2.2.2.1
      have x2 : Kd h 320 = 1 := h4.1
      omega
  · by_cases z : 0 ≤ a
    · obtain ⟨k1, l1, i1, r1⟩ := s (300 + a.toNat) (by omega) (by omega)
      obtain ⟨k2, l2, i2, r2⟩ := s (320 + a.toNat) (by omega) (by omega)
      rw [k1, k2]
      exact R.2 a a0 a1
    · have : a.toNat = 0 := by omega
      rw [this]
      obtain ⟨k1, l1, i1, r1⟩ := s (300 + 0) (by omega) (by omega)
      obtain ⟨k2, l2, i2, r2⟩ := s (320 + 0) (by omega) (by omega)
      rw [k1, k2]
      have := R.2 a a0 a1
      rwa [show a.toNat = 0 by omega] at this
theorem VObj.of {h h' : Mh} {b : Nat} {ct cc : Int} {con : Int → Int} {pc : Int} {par : Int → Nat} {ht rt ap : Int} (V : VObj h b ct cc con pc par ht rt ap) (c6 : cc ≤ 6) (s : ∀ n, b ≤ n → n < b + 10 → Sam h h' n) : VObj h' b ct cc con pc par ht rt ap := by
  unfold VObj at *
  obtain ⟨k0, l0, i0, r0⟩ := s b (by omega) (by omega)
  obtain ⟨k1, l1, i1, r1⟩ := s (b + 1) (by omega) (by omega)
  obtain ⟨k2, l2, i2, r2⟩ := s (b + 2) (by omega) (by omega)
  obtain ⟨v1, v2, v3, v4, v5⟩ := V
  rw [k0, r0, i0, k1, l1, r1, k2, l2, r2]
  refine ⟨v1, v2, fun i j0 j1 => ?_, v4, fun i j0 j1 => ?_⟩
  · obtain ⟨k3, l3, i3, r3⟩ := s (b + 3 + i.toNat) (by omega) (by omega)
    rw [k3, i3]
    exact v3 i j0 j1
  · obtain ⟨k3, l3, i3, r3⟩ := s (b + 3 + i.toNat) (by omega) (by omega)
    rw [k3]
    exact v5 i j0 j1
theorem mxh_of {A B : AS} (e8 : B 8 = A 8) (e15 : B 15 = A 15) : ∀ n, mxh B n = mxh A n
  | 0 => rfl
  | n + 1 => by rw [mxh, mxh, mxh_of e8 e15 n, e8, e15]
theorem RCv.of {A B : AS} {h h' : Mh} (R : RCv A h) (I : IvV A) (J : IvD A) (G : IvG A) (e : ∀ g, g ∈ gV → B g = A g) (s : ∀ n, 10000 ≤ n → n < 20000 → Sam h h' n) : RCv B h' := by
  have e100 := e 100 (by decide)
  have g1 := G.1
  have g2 := G.2.1
  refine ⟨fun v hv => ?_, ?_, fun n n0 n1 => ?_⟩
  · have hv2 : exv A v := by unfold exv at *; rw [e 1 (by decide), e 2 (by decide)] at hv; exact hv
    have := (R.1 v hv2).of (h' := h') (by have := I.2.2.2.2.1 v hv2; omega) (fun n n0 n1 => s n (by unfold vN at n0; omega) (by have := G.2.2.1 v hv2; unfold vN at n1; omega))
    unfold VPub
    rw [vN_of e100, e 3 (by decide), e 4 (by decide), e 5 (by decide), e 6 (by decide), e 7 (by decide), e 8 (by decide), e 9 (by decide), e 10 (by decide)]
    exact this
  · have := R.2.1.of (h' := h') J.2.2.2.1 (fun n n0 n1 => s n (by omega) (by omega))
    unfold VDra
    rw [e 102 (by decide), vN_of e100, e 11 (by decide), e 12 (by decide), e 13 (by decide), e 14 (by decide), e 15 (by decide), mxh_of (e 8 (by decide)) (e 15 (by decide))]
    exact this
  · rw [e 102 (by decide)] at n0
    rw [(s n (by omega) n1).1]
    exact R.2.2 n n0 n1
theorem SObj.of {A B : AS} {h h' : Mh} {s : Int} (R : SObj A h s) (e : ∀ g, g ∈ gS → B g = A g) (sm : ∀ n, sN s ≤ n → n < sN s + 4 → Sam h h' n) : SObj B h' s := by
  obtain ⟨k0, l0, i0, r0⟩ := sm (sN s) (by omega) (by omega)
  obtain ⟨k1, l1, i1, r1⟩ := sm (sN s + 1) (by omega) (by omega)
  obtain ⟨k2, l2, i2, r2⟩ := sm (sN s + 2) (by omega) (by omega)
  obtain ⟨k3, l3, i3, r3⟩ := sm (sN s + 3) (by omega) (by omega)
  unfold SObj at *
  rw [k0, i0, r0, k1, l1, r1, k2, l2, k3, l3, r3, e 17 (by decide), e 20 (by decide), e 22 (by decide), e 23 (by decide), e 27 (by decide), e 28 (by decide), e 29 (by decide), e 30 (by decide), e 31 (by decide), e 105 (by decide), pN_of (e 100 (by decide))]
  exact R
theorem RCs.of {A B : AS} {h h' : Mh} (R : RCs A h) (a16 : A 16 0 0 ≤ 5) (e : ∀ g, g ∈ gS → B g = A g) (s : ∀ n, 20000 ≤ n → n < 30000 → Sam h h' n) : RCs B h' := by
  refine ⟨fun t t0 t1 => ?_, fun n n0 n1 => ?_⟩
  · rw [e 16 (by decide)] at t1
    exact (R.1 t t0 t1).of e (fun n n0 n1 => s n (by unfold sN at n0; omega) (by unfold sN at n1; omega))
  · rw [e 16 (by decide)] at n0
    rw [(s n (by omega) n1).1]
    exact R.2 n n0 n1
theorem FObj.of {h h' : Mh} {s c : Int} (R : FObj h s c) (sm : ∀ n, cN s c ≤ n → n < cN s c + 5 → Sam h h' n) : FObj h' s c := by
  obtain ⟨k0, l0, i0, r0⟩ := sm (cN s c) (by omega) (by omega)
  obtain ⟨k1, l1, i1, r1⟩ := sm (cN s c + 1) (by omega) (by omega)
  obtain ⟨k2, l2, i2, r2⟩ := sm (cN s c + 2) (by omega) (by omega)
  obtain ⟨k3, l3, i3, r3⟩ := sm (cN s c + 3) (by omega) (by omega)
  obtain ⟨k4, l4, i4, r4⟩ := sm (cN s c + 4) (by omega) (by omega)
  unfold FObj at *
  rw [k0, r0, k1, l1, k2, l2, k3, l3, k4, l4]
  exact R
theorem RCo.of {A B : AS} {h h' : Mh} (R : RCo A h) (a16 : A 16 0 0 ≤ 5) (e : B 16 = A 16) (s : ∀ n, 20000 ≤ n → n < 30000 → Sam h h' n) : RCo B h' := by
  intro t c t0 t1 c0 c1
  rw [e] at t1
  exact (R t c t0 t1 c0 c1).of (fun n n0 n1 => s n (by unfold cN at n0; omega) (by unfold cN at n1; omega))
theorem cN_lt {s c : Int} (s1 : s < 5) (c1 : c < 16) : 20000 ≤ cN s c ∧ cN s c + 4 < 30000 := by unfold cN; omega
theorem RCk.of {A B : AS} {h h' : Mh} (R : RCk A h) (a16 : A 16 0 0 ≤ 5) (G : IvG A) (e : ∀ g, g ∈ gK → B g = A g) (s : ∀ n, 20000 ≤ n → n < 30000 → Mi h' n = Mi h n) : RCk B h' := by
  intro t p t0 t1 p0 p1
  rw [e 16 (by decide)] at t1
  have g := G.2.2.2.2.2.1 t p t0 (by omega) p0 p1
  have hc := cN_lt (s := t) (c := A 105 t p) (by omega) (by omega)
  unfold FKey FNam
  rw [e 17 (by decide), e 18 (by decide), e 21 (by decide), e 24 (by decide), e 25 (by decide), e 105 (by decide), s _ hc.1 (by omega), s (cN t (A 105 t p) + 1) (by omega) (by omega), s (cN t (A 105 t p) + 2) (by omega) (by omega)]
  exact R t p t0 t1 p0 p1
theorem Whr_of {A B : AS} (e36 : B 36 = A 36) (e39 : B 39 = A 39) (e42 : B 42 = A 42) (e43 : B 43 = A 43) {f r : Int} (h : Whr A f r) : Whr B f r := by unfold Whr at *; rw [e36, e39, e42, e43]; exact h
theorem RCt.of {A B : AS} {h h' : Mh} (R : RCt A h) (a16 : A 16 0 0 ≤ 5) (G : IvG A) (e : ∀ g, g ∈ gT → B g = A g) (s : ∀ n, 20000 ≤ n → n < 30000 → Mi h' n = Mi h n) : RCt B h' := by
  intro t p t0 t1 p0 p1
  rw [e 16 (by decide)] at t1
  have g := G.2.2.2.2.2.1 t p t0 (by omega) p0 p1
  have hc := cN_lt (s := t) (c := A 105 t p) (by omega) (by omega)
  have := R t p t0 t1 p0 p1
  unfold FSta at *
  rw [e 17 (by decide), e 18 (by decide), e 44 (by decide), e 105 (by decide), s _ hc.1 (by omega)]
  exact ⟨fun z => ⟨Whr_of (e 36 (by decide)) (e 39 (by decide)) (e 42 (by decide)) (e 43 (by decide)) (this.1 z).1, (this.1 z).2⟩, this.2⟩
theorem RCi.of {A B : AS} {h h' : Mh} (R : RCi A h) (a16 : A 16 0 0 ≤ 5) (G : IvG A) (e : ∀ g, g ∈ gI → B g = A g) (s : ∀ n, 20000 ≤ n → n < 30000 → Mi h' n = Mi h n ∧ Mr h' n = Mr h n) : RCi B h' := by
  intro t p t0 t1 p0 p1
  rw [e 16 (by decide)] at t1
  have g := G.2.2.2.2.2.1 t p t0 (by omega) p0 p1
  have hc := cN_lt (s := t) (c := A 105 t p) (by omega) (by omega)
  unfold FImg
  rw [e 17 (by decide), e 18 (by decide), e 32 (by decide), e 34 (by decide), e 105 (by decide), pN_of (e 100 (by decide)), (s _ hc.1 (by omega)).1, (s (cN t (A 105 t p) + 3) (by omega) (by omega)).2, (s (cN t (A 105 t p) + 4) (by omega) (by omega)).1]
  exact R t p t0 t1 p0 p1
theorem fN_of {A B : AS} (e : B 103 = A 103) : fN B = fN A := by funext f; unfold fN; rw [e]
theorem RCm.of {A B : AS} {h h' : Mh} (R : RCm A h) (a36 : A 36 0 0 ≤ 4) (e : ∀ g, g ∈ gM → B g = A g) (s : ∀ n, n = 16 ∨ n = 21 ∨ n = 22 ∨ (32000 ≤ n ∧ n < 32010) → Kd h' n = Kd h n ∧ Ln h' n = Ln h n ∧ (∀ k, (n = 16 → k ≠ 5) → Mi h' n k = Mi h n k) ∧ Mr h' n = Mr h n) : RCm B h' := by
  obtain ⟨k16, l16, i16, r16⟩ := s 16 (by omega)
  obtain ⟨k21, l21, i21, r21⟩ := s 21 (by omega)
  obtain ⟨k22, l22, i22, r22⟩ := s 22 (by omega)
  unfold RCm at *
  rw [k16, r16, i16 1 (by omega), i16 3 (by omega), i16 4 (by omega), i16 6 (by omega), i16 7 (by omega), k21, l21, r21, k22, l22, r22, e 35 (by decide), e 36 (by decide), e 37 (by decide), e 38 (by decide), e 39 (by decide), e 40 (by decide), e 41 (by decide), e 42 (by decide), e 43 (by decide), e 45 (by decide), e 46 (by decide), fN_of (e 103 (by decide))]
  refine ⟨R.1, R.2.1, fun m m0 m1 => ?_, R.2.2.2.1, fun m m0 m1 => ?_⟩
  · obtain ⟨k, l, i, r⟩ := s (32000 + m.toNat) (by omega)
    rw [k, r, i 0 (by omega), i 1 (by omega), i 2 (by omega), i 4 (by omega), i 5 (by omega)]
    exact R.2.2.1 m m0 m1
  · obtain ⟨k, l, i, r⟩ := s (32000 + m.toNat) (by omega)
    rw [k]
    exact R.2.2.2.2 m m0 m1
theorem lft_of {A B : AS} (e32 : B 32 = A 32) (e33 : B 33 = A 33) : ∀ n, lft B n = lft A n
  | 0 => rfl
  | n + 1 => by rw [lft, lft, lft_of e32 e33 n, e32, e33]
theorem RCu.of {A B : AS} {h h' : Mh} (R : RCu A h) (e32 : B 32 = A 32) (e33 : B 33 = A 33) (s : Mi h' 16 5 = Mi h 16 5) : RCu B h' := by
  unfold RCu at *
  rw [s, lft_of e32 e33]; exact R
theorem RCc.of {A B : AS} {h h' : Mh} (R : RCc A h) (e : ∀ g, g ∈ gC → B g = A g) (s : ∀ n, n = 15 ∨ (17 ≤ n ∧ n < 21) ∨ (100 ≤ n ∧ n < 160) → Sam h h' n) (s2 : ∀ n, 200 ≤ n → n < 205 → Kd h' n = Kd h n ∧ Ln h' n = Ln h n) : RCc B h' := by
  obtain ⟨k15, l15, i15, r15⟩ := s 15 (by omega)
  obtain ⟨k17, l17, i17, r17⟩ := s 17 (by omega)
  obtain ⟨k18, l18, i18, r18⟩ := s 18 (by omega)
  obtain ⟨k19, l19, i19, r19⟩ := s 19 (by omega)
  obtain ⟨k20, l20, i20, r20⟩ := s 20 (by omega)
  unfold RCc at *
  rw [k15, i15, r15, k17, l17, r17, k18, l18, r18, k19, l19, i19, k20, l20, r20, e 54 (by decide), e 56 (by decide), e 57 (by decide), e 58 (by decide), vN_of (e 100 (by decide))]
  refine ⟨R.1, fun i i0 i1 => ?_, fun i i0 i1 => ?_, R.2.2.2.1, fun k k0 k1 => ⟨(R.2.2.2.2 k k0 k1).1, (R.2.2.2.2 k k0 k1).2.1, fun c c0 c1 => ?_⟩⟩
  · obtain ⟨k, l, -, -⟩ := s (100 + i.toNat) (by omega)
    rw [k, l]; exact R.2.1 i i0 i1
  · obtain ⟨k, l⟩ := s2 (200 + i.toNat) (by omega) (by omega)
    rw [k, l]; exact R.2.2.1 i i0 i1
  · obtain ⟨-, -, i, -⟩ := s (100 + ((Mi h 15 3 + (60 - A 54 0 0) + k) % 60).toNat) (by omega)
    rw [i]; exact (R.2.2.2.2 k k0 k1).2.2 c c0 c1
theorem RCn.of {A B : AS} {h h' : Mh} (R : RCn A h) (a47 : A 47 0 0 ≤ 30) (e : ∀ g, g ∈ gN → B g = A g) (s : ∀ n, 30000 ≤ n → n < 31000 → Sam h h' n) : RCn B h' := by
  unfold RCn at *
  rw [e 16 (by decide), e 17 (by decide), e 18 (by decide), e 20 (by decide), e 21 (by decide), e 47 (by decide), e 48 (by decide), e 49 (by decide), e 50 (by decide)]
  refine ⟨fun k k0 k1 => ?_, fun n n0 n1 => ?_⟩
  · obtain ⟨k, l, i, r⟩ := s (30000 + k.toNat) (by omega) (by omega)
    rw [k, i, r]; exact R.1 _ k0 k1
  · rw [(s n (by omega) n1).1]; exact R.2 n n0 n1
theorem RCd.of {A B : AS} {h h' : Mh} (R : RCd A h) (a51 : A 51 0 0 ≤ 20) (e : ∀ g, g ∈ gD → B g = A g) (s : ∀ n, 31000 ≤ n → n < 32000 → Sam h h' n) : RCd B h' := by
  unfold RCd at *
  rw [e 51 (by decide), e 52 (by decide), e 53 (by decide)]
  refine ⟨fun k k0 k1 => ?_, fun n n0 n1 => ?_⟩
  · obtain ⟨ka, l, i, r⟩ := s (31000 + 2 * k.toNat) (by omega) (by omega)
    obtain ⟨kb, l2, i2, r2⟩ := s (31001 + 2 * k.toNat) (by omega) (by omega)
    rw [ka, r, kb, l2, i2]; exact R.1 _ k0 k1
  · rw [(s n (by omega) n1).1]; exact R.2 n n0 n1
/-- the model's turn doesn't touch them -/
theorem RC.sm {A : AS} {h h' : Mh} (R : RC A h) (c : Int) (V : IvV A) (D : IvD A) (S : IvS c A) (M : IvM c A) (N : IvN A) (G : IvG A) (s : Sm h h') : RC A h' := by
  obtain ⟨r1, r2, r3, r4, r5, r6, r7, r8, r9, r10, r11, r12, r13⟩ := R
  have t : ∀ n, n ≠ 3 → (n < 1000 ∨ 1066 ≤ n) → Sam h h' n := fun n n3 nr => ⟨by rw [s.1], by rw [s.2.1], s.2.2.2 n n3 nr, by rw [s.2.2.1]⟩
  have E : ∀ (L : List Nat) g, g ∈ L → A g = A g := fun _ _ _ => rfl
  exact ⟨r1.of (E _) (fun n hn => t n (by omega) (by omega)), r2.of (E _) (fun n n0 n1 => t n (by omega) (by omega)), r3.of V D G (E _) (fun n n0 n1 => t n (by omega) (by omega)), r4.of S.2.1 (E _) (fun n n0 n1 => t n (by omega) (by omega)), r5.of S.2.1 rfl (fun n n0 n1 => t n (by omega) (by omega)), r6.of S.2.1 G (E _) (fun n n0 n1 => (t n (by omega) (by omega)).2.2.1), r7.of S.2.1 G (E _) (fun n n0 n1 => (t n (by omega) (by omega)).2.2.1), r8.of S.2.1 G (E _) (fun n n0 n1 => (t n (by omega) (by omega)).2.2), r9.of M.2.1 (E _) (fun n hn => ⟨(t n (by omega) (by omega)).1, (t n (by omega) (by omega)).2.1, fun k _ => congrFun (t n (by omega) (by omega)).2.2.1 k, (t n (by omega) (by omega)).2.2.2⟩), r10.of rfl rfl (congrFun (t 16 (by omega) (by omega)).2.2.1 5), r11.of (E _) (fun n hn => t n (by omega) (by omega)) (fun n n0 n1 => ⟨(t n (by omega) (by omega)).1, (t n (by omega) (by omega)).2.1⟩), r12.of N.2.1 (E _) (fun n n0 n1 => t n (by omega) (by omega)), r13.of N.2.2.2.2.1 (E _) (fun n n0 n1 => t n (by omega) (by omega))⟩
/-- the class's turn doesn't touch the model -/
theorem RM.sx {A : AS} {h h' : Mh} (R : RM A h) (s : Sx h h') : RM A h' := by
  have t : ∀ n, n = 3 ∨ (1000 ≤ n ∧ n < 1066) → Sam h h' n := fun n hn => s n (by omega) (by omega)
  have i3 := (t 3 (Or.inl rfl)).2.2.1
  have mk : ∀ k, mKd k ≠ 0 → k < 66 := by
    intro k hk
    unfold mKd at hk
    split at hk <;> first | decide | exact absurd rfl hk
  obtain ⟨W, r1, r2, r3, r4, r5, r6⟩ := R
  refine ⟨⟨by rw [(t 3 (Or.inl rfl)).1]; exact W.1, fun k hk => ?_⟩, fun f hf => by rw [i3]; exact r1 f hf, fun f hf i j i0 j0 j1 j2 => ?_, RMq.of r3 rfl rfl (t 1043 (by omega)).2.2.1, RMk.of r4 rfl rfl rfl (t 1024 (by omega)).2.2.1 (t 1025 (by omega)).2.2.1 (t 1026 (by omega)).2.2.1, RMt.of r5 rfl rfl (t 1019 (by omega)).2.2.1, RMc.of r6 rfl rfl (t 1056 (by omega)).2.2.1 (by rw [i3])⟩
  · have := mk k hk
    rw [(t 3 (Or.inl rfl)).2.2.2, (t (1000 + k) (by omega)).1, (t (1000 + k) (by omega)).2.1]
    exact W.2 k hk
  · have := pw_lt (f := f) (by omega)
    rw [(t (1000 + f) (by omega)).2.2.1]
    exact r2 f hf i j i0 j0 j1 j2
