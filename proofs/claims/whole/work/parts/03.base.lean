
/-- what the cells of the system hold: whole numbers of 32 bits (booleans and bytes too), of 64 bits; by cell and place -/
abbrev Ms : Type := (Nat → Nat → Int32) × (Nat → Nat → Int64)
def sI (σ : Ms) (k j : Nat) (v : Int32) : Ms := (fun a b => if a = k ∧ b = j then v else σ.1 a b, σ.2)
def sL (σ : Ms) (k j : Nat) (v : Int64) : Ms := (σ.1, fun a b => if a = k ∧ b = j then v else σ.2 a b)
abbrev NC : Nat := 113

def CTL : List (Nat × Nat × Nat) := [(0, 9, 0), (1, 4, 0), (1, 4, 0), (2, 240, 0), (3, 900, 0), (1, 1780, 0), (1, 84, 0), (2, 20, 0), (1, 20, 0), (1, 20, 0), (1, 5, 0), (0, 8, 0), (0, 6, 0), (4, 4, 16), (1, 4, 0), (1, 4, 0), (2, 60, 0), (2, 60, 0), (2, 60, 0), (2, 60, 0), (0, 5, 0), (3, 900, 0), (0, 0, 0), (1, 20, 0), (1, 20, 0), (1, 4, 0), (1, 5, 0), (1, 5, 0), (2, 20, 0), (1, 20, 0), (0, 0, 0), (1, 20, 0), (1, 20, 0), (1, 4, 0), (1, 5, 0), (1, 5, 0), (2, 20, 0), (1, 20, 0), (0, 0, 0), (1, 20, 0), (1, 20, 0), (1, 4, 0), (1, 5, 0), (1, 5, 0), (2, 20, 0), (1, 20, 0), (0, 0, 0), (1, 20, 0), (1, 20, 0), (1, 4, 0), (1, 5, 0), (1, 5, 0), (2, 20, 0), (1, 20, 0), (0, 0, 0), (1, 20, 0), (1, 20, 0), (1, 4, 0), (1, 5, 0), (1, 5, 0), (2, 20, 0), (1, 20, 0), (0, 3, 0), (1, 60, 0), (1, 60, 0), (1, 60, 0), (1, 60, 0), (1, 60, 0), (1, 3, 0), (0, 3, 0), (1, 60, 0), (1, 60, 0), (1, 60, 0), (1, 60, 0), (1, 60, 0), (1, 3, 0), (0, 3, 0), (1, 60, 0), (1, 60, 0), (1, 60, 0), (1, 60, 0), (1, 60, 0), (1, 3, 0), (0, 3, 0), (1, 60, 0), (1, 60, 0), (1, 60, 0), (1, 60, 0), (1, 60, 0), (1, 3, 0), (0, 3, 0), (1, 60, 0), (1, 60, 0), (1, 60, 0), (1, 60, 0), (1, 60, 0), (1, 3, 0), (5, 3, 38), (6, 3, 76), (0, 2, 0), (0, 7, 0), (1, 20, 0), (0, 4, 0), (1, 20, 0), (1, 6, 0), (1, 6, 0), (4, 2, 107), (2, 64, 0), (2, 64, 0), (0, 1, 0), (1, 60, 0), (0, 1, 0), (1, 60, 0)]
def CT (k : Nat) : Nat × Nat × Nat := CTL.getD k (9, 0, 0)
def KT (c : Nat) : List Nat := match c with
  | 0 => [3, 4, 5, 6, 7, 0, 0, 0, 0, 0, 0, 0, 8, 9]
  | 1 => [0, 0, 0, 0, 0, 0, 0, 3]
  | 2 => [0, 0, 0, 0, 0]
  | 3 => [0, 0, 0, 3, 4, 5, 6, 7, 0, 8]
  | 4 => [3, 4, 5, 6]
  | 5 => [3, 0, 0, 0, 0, 0, 0, 0, 0]
  | 6 => [3, 4, 5]
  | 7 => [0, 0, 3]
  | 8 => [3, 11, 13, 21, 53, 60, 88, 89, 90, 91, 93, 100, 102, 0, 0, 0, 0, 0, 1, 1]
  | 9 => [0, 0, 1, 1, 3, 4, 5, 6, 0, 0, 0, 0, 0, 0, 0, 0, 0, 0, 1, 7, 8, 0, 0, 9, 10, 1, 0, 1, 0, 0, 0, 0, 0, 0, 0, 11, 12, 0, 0, 0, 0, 0, 0, 0, 0, 0]
  | _ => []

/-- the ghosts of a run: the classes' numbers and places, the array classes, the address of each cell -/
abbrev GT : Type := va_G × (Nat → ClassId) × (Nat → Nat)
def cv (g : GT) (v : Value) : Value := match v with
  | .ref n => .ref (g.2.2 n)
  | w => w
def cvp (g : GT) (q : Nat × Value) : Nat × Value := (q.1, cv g q.2)
theorem cv_cat (g : GT) (v : Value) : (cv g v).category = v.category := by cases v <;> rfl
def fv (g : GT) (σ : Ms) (k j kd : Nat) : Value := if kd = 0 then .int (σ.1 k j) else if kd = 1 then .long (σ.2 k j) else .ref (g.2.2 (k + (kd - 2)))
def fvs (g : GT) (σ : Ms) (k : Nat) : Nat → List Nat → List Value
  | _, [] => []
  | j, kd :: r => fv g σ k j kd :: fvs g σ k (j + 1) r
theorem fvs_len (g : GT) (σ : Ms) (k : Nat) : ∀ (l : List Nat) (j : Nat), (fvs g σ k j l).length = l.length
  | [], _ => rfl
  | _ :: r, j => by rw [fvs, List.length_cons, List.length_cons, fvs_len g σ k r]
theorem fvs_get (g : GT) (σ : Ms) (k : Nat) : ∀ (l : List Nat) (j i kd : Nat), l[i]? = some kd → (fvs g σ k j l)[i]? = some (fv g σ k (j + i) kd)
  | [], _, _, _, h => by simp at h
  | x :: r, j, 0, kd, h => by
    simp at h
    subst h
    simp [fvs]
  | x :: r, j, i + 1, kd, h => by
    rw [List.getElem?_cons_succ] at h
    rw [fvs, List.getElem?_cons_succ, fvs_get g σ k r (j + 1) i kd h, Nat.add_assoc, Nat.add_comm 1 i]
theorem fvs_eq (g : GT) {σ τ : Ms} {k k' : Nat} (hk : k = k') : ∀ (l : List Nat) (j : Nat), (∀ i, i < l.length → σ.1 k (j + i) = τ.1 k' (j + i) ∧ σ.2 k (j + i) = τ.2 k' (j + i)) → fvs g σ k j l = fvs g τ k' j l
  | [], _, _ => rfl
  | x :: r, j, h => by
    rw [fvs, fvs, fvs_eq g hk r (j + 1) (fun i hi => by have := h (i + 1) (by simp; omega); rw [show j + 1 + i = j + (i + 1) by omega]; exact this)]
    have h0 := h 0 (by simp)
    rw [Nat.add_zero] at h0
    rw [fv, fv, h0.1, h0.2, hk]
theorem fvs_setI (g : GT) (σ : Ms) (k : Nat) (v : Int32) : ∀ (l : List Nat) (j i : Nat), l[i]? = some 0 → (fvs g σ k j l).set i (.int v) = fvs g (sI σ k (j + i) v) k j l
  | [], _, _, h => by simp at h
  | x :: r, j, 0, h => by
    simp at h
    subst h
    rw [fvs, fvs, List.set_cons_zero]
    congr 1
    · simp [fv, sI]
    · exact fvs_eq g rfl r (j + 1) (fun i _ => by simp [sI]; omega)
  | x :: r, j, i + 1, h => by
    rw [List.getElem?_cons_succ] at h
    rw [fvs, fvs, List.set_cons_succ, fvs_setI g σ k v r (j + 1) i h, show j + 1 + i = j + (i + 1) by omega]
    congr 1
    rw [fv, fv]
    have : ¬ (j = j + (i + 1)) := by omega
    simp [sI, this]
theorem fvs_setL (g : GT) (σ : Ms) (k : Nat) (v : Int64) : ∀ (l : List Nat) (j i : Nat), l[i]? = some 1 → (fvs g σ k j l).set i (.long v) = fvs g (sL σ k (j + i) v) k j l
  | [], _, _, h => by simp at h
  | x :: r, j, 0, h => by
    simp at h
    subst h
    rw [fvs, fvs, List.set_cons_zero]
    congr 1
    · simp [fv, sL]
    · exact fvs_eq g rfl r (j + 1) (fun i _ => by simp [sL]; omega)
  | x :: r, j, i + 1, h => by
    rw [List.getElem?_cons_succ] at h
    rw [fvs, fvs, List.set_cons_succ, fvs_setL g σ k v r (j + 1) i h, show j + 1 + i = j + (i + 1) by omega]
    congr 1
    rw [fv, fv]
    have : ¬ (j = j + (i + 1)) := by omega
    simp [sL, this]
/-- what a cell holds -/
def cellE (g : GT) (σ : Ms) (k : Nat) (t : Nat × Nat × Nat) : va_E :=
  if t.1 = 0 then .inr (t.2.1, fvs g σ k 0 (KT t.2.1))
  else if t.1 = 1 then .inl (g.2.1 0, t.2.1, .inl (σ.1 k))
  else if t.1 = 2 then .inl (g.2.1 1, t.2.1, .inr (.inl (σ.2 k)))
  else if t.1 = 3 then .inl (g.2.1 2, t.2.1, .inl (σ.1 k))
  else if t.1 = 4 then .inl (g.2.1 3, t.2.1, .inr (.inr (.inr (.inr (fun j => some (g.2.2 (t.2.2 + j)))))))
  else if t.1 = 5 then .inl (g.2.1 4, t.2.1, .inr (.inr (.inr (.inr (fun j => some (g.2.2 (t.2.2 + 8 * j)))))))
  else .inl (g.2.1 5, t.2.1, .inr (.inr (.inr (.inr (fun j => some (g.2.2 (t.2.2 + 7 * j)))))))
def Wd (g : GT) (σ : Ms) (H : Heap) : Prop := ∀ k, k < NC → va_at g.1 vwCl (g.2.2 k, cellE g σ k (CT k)) H
def GA (g : GT) : Nat → Prop := fun q => ∃ k, k < NC ∧ q = g.2.2 k
def tysG (g : GT) : List (ClassId × FieldType) := [(g.2.1 0, .int), (g.2.1 1, .long), (g.2.1 2, .byte), (g.2.1 3, .array .long), (g.2.1 4, .object RX0), (g.2.1 5, .object RX5)]
/-- a cell of a kind -/
def IsC (k : Nat) (t : Nat × Nat × Nat) : Prop := k < NC ∧ CT k = t
theorem Wd.one {g : GT} {σ : Ms} {H : Heap} {k : Nat} {t : Nat × Nat × Nat} (h : Wd g σ H) (hk : IsC k t) : va_P g.1 vwCl [(g.2.2 k, cellE g σ k t)] H := by
  intro i q hi
  match i, hi with
  | 0, hi =>
    cases hi
    rw [← hk.2]
    exact h k hk.1
  | i + 1, hi => simp at hi
theorem cellE_I (g : GT) (σ : Ms) (k j : Nat) (v : Int32) {a : Nat} (ha : a ≠ k) (t : Nat × Nat × Nat) : cellE g (sI σ k j v) a t = cellE g σ a t := by
  have e1 : (sI σ k j v).1 a = σ.1 a := funext fun b => by simp [sI, ha]
  have e2 : (sI σ k j v).2 = σ.2 := rfl
  have e3 : fvs g (sI σ k j v) a 0 (KT t.2.1) = fvs g σ a 0 (KT t.2.1) := fvs_eq g rfl _ _ (fun i _ => ⟨by rw [e1], by rw [e2]⟩)
  unfold cellE
  rw [e1, e2, e3]
theorem cellE_L (g : GT) (σ : Ms) (k j : Nat) (v : Int64) {a : Nat} (ha : a ≠ k) (t : Nat × Nat × Nat) : cellE g (sL σ k j v) a t = cellE g σ a t := by
  have e1 : (sL σ k j v).2 a = σ.2 a := funext fun b => by simp [sL, ha]
  have e2 : (sL σ k j v).1 = σ.1 := rfl
  have e3 : fvs g (sL σ k j v) a 0 (KT t.2.1) = fvs g σ a 0 (KT t.2.1) := fvs_eq g rfl _ _ (fun i _ => ⟨by rw [e2], by rw [e1]⟩)
  unfold cellE
  rw [e1, e2, e3]
theorem Wd.set {g : GT} {σ τ : Ms} {H H1 : Heap} {k : Nat} {t : Nat × Nat × Nat} (h : Wd g σ H) (hinj : ∀ i j, i < NC → j < NC → g.2.2 i = g.2.2 j → i = j) (hk : IsC k t) (ho : ∀ a, a ≠ k → cellE g τ a (CT a) = cellE g σ a (CT a)) (he : va_at g.1 vwCl (g.2.2 k, cellE g τ k t) H1) (oq : ∀ q : Nat, q ≠ g.2.2 k → H1[q]? = H[q]?) : Wd g τ H1 := by
  intro a ha
  by_cases e : a = k
  · subst e
    rw [hk.2]
    exact he
  · rw [ho a e]
    exact (h a ha).kept (oq _ (fun z => e (hinj a k ha hk.1 z)))

/-- the words of the tables that a callee may be given -/
def LW : List Cond := lw_tbl.filter goodWord